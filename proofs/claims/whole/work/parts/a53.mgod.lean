/-! The model's figures of graphs: god's number, how many, means, distances. -/
theorem onG_3 {T : tfT} {i : Nat} {c : Int} {f : Nat → Nat → tRes} {r : Nat → Nat → tRes} (hi : i < tPn T) (hc : c = 113 ∨ c = 116) : onG T (i : Int) c f = f i (if c = 113 then 0 else 1) := by
  unfold onG
  rw [onP_i hi]
  exact if_neg (fun n => n hc)
theorem onG_2 {T : tfT} {i : Nat} {c : Int} {f : Nat → Nat → tRes} (hi : i < tPn T) (hc : ¬ (c = 113 ∨ c = 116)) : onG T (i : Int) c f = (2, 0, T) := by
  unfold onG
  rw [onP_i hi]
  exact if_pos hc
theorem bfr_scr {y : Nat} {I I' : Nat → Nat → Int32} {L : Nat → Nat → Int64} (h : bfr y I I') : scr y I L I' L := ⟨fun a q => h a (fun e => q (by unfold scA; omega)) (fun e => q (by unfold scA; omega)), fun k _ _ _ => by rw [h y (by omega) (by omega)], fun _ _ => rfl⟩
section MGOD
variable {d y : Nat} {T : tfT} {I : Nat → Nat → Int32} {L : Nat → Nat → Int64} {R : zRt} {Q : zO → zM → Prop}
theorem god_lp {i Z : Nat} {c : Int32} {f : Nat → Int} (hd : 1 ≤ d) (hM : ML y R) (h8 : Z ≤ 800) (hf : ∀ s, s < Z → 0 ≤ f s ∧ f s < 1000) (vf : ∀ s, s < Z → I (y + 1779) s = iI (f s))
    (hQ : Q (.inl (some (zi (iI (mxd f Z))))) (I, L, R)) :
    ∀ n s, s + n = Z → ∀ (x4 x5 : Int32), x4 = iI (mxd f s) → x5 = iI (s : Int) → zW 201 d 0 0 24 [some (zr (some y)), some (zi (iI (i : Int))), some (zi c), some (zi (iI (Z : Int))), some (zi x4), some (zi x5)] [] (I, L, R) Q
  | 0, s, hs, x4, x5, e4, e5 => by
    subst e4; subst e5
    obtain rfl : s = Z := by omega
    refine zW.gbt [] rfl rfl rfl (by omega) trivial (by simp (disch := omega) only [eq_self, not_true_eq_false, not_false_eq_true, upI_same, upL_same, upI_ne, upL_ne, iI_ixN, zI_mk, zL_mk, zP_mk, zK_mk, zN_mk, zwI_up, zwL_up, zg_some, Nat.reduceMod, Nat.reduceDiv, zcn_I, iI_add, iI_sub, iI_mul, iI_neg, iI_lt, iI_le, iI_eq, iI_lt0, iI_le0, iI_gt0, iI_ge0, iI_eq0] <;> omega) ?_
    exact zW.gr [] rfl rfl rfl (by omega) trivial trivial hQ
  | n + 1, s, hs, x4, x5, e4, e5 => by
    subst e4; subst e5
    have k0 : R.2.1 y = some (7, 0) := hM.1
    have v1 := vf s (by omega)
    have r1 := hf s (by omega)
    have r2 := mxd_rg (f := f) (m := 1000) (by omega) (n := s) (fun j hj => by have := hf j (by omega); omega)
    have p14 : R.1 y 14 = some (y + 1779) := (hM.2.1 14 (by decide)).1; have k14 : R.2.1 (y + 1779) = some (20, 800) := (hM.2.1 14 (by decide)).2
    refine zW.gbf [] rfl rfl rfl (by omega) trivial (by simp (disch := omega) only [eq_self, not_true_eq_false, not_false_eq_true, upI_same, upL_same, upI_ne, upL_ne, iI_ixN, zI_mk, zL_mk, zP_mk, zK_mk, zN_mk, zwI_up, zwL_up, zg_some, Nat.reduceMod, Nat.reduceDiv, zcn_I, iI_add, iI_sub, iI_mul, iI_neg, iI_lt, iI_le, iI_eq, iI_lt0, iI_le0, iI_gt0, iI_ge0, iI_eq0] <;> omega) ?_
    refine zW.go [24] rfl (by omega) (by simp (disch := omega) only [true_or, or_true, eq_self, Option.some.injEq, Prod.mk.injEq, zall_0, zall_1, zall_2, zob_iff, zar_iff, zis_iff, zkIs_some, zkHas_some, iI_vp, z01_I, z01_bz, zch_I, true_and, and_true, or_false, false_or, and_self, upI_same, upL_same, upI_ne, upL_ne, iI_ixN, zI_mk, zL_mk, zP_mk, zK_mk, zN_mk, zwI_up, zwL_up, zg_some, Nat.reduceMod, Nat.reduceDiv, zcn_I, iI_add, iI_sub, iI_mul, iI_neg, iI_lt, iI_le, iI_eq, iI_lt0, iI_le0, iI_gt0, iI_ge0, iI_eq0, k0, p14, k14] <;> omega) ?_
    simp (disch := omega) only [upI_same, upL_same, upI_ne, upL_ne, iI_ixN, zI_mk, zL_mk, zP_mk, zK_mk, zN_mk, zwI_up, zwL_up, zg_some, Nat.reduceMod, Nat.reduceDiv, p14, v1]
    refine god_lp hd hM h8 hf vf hQ n (s + 1) (by omega) _ _ ?_ (by rw [zcn_I, iI_add]; rfl)
    rw [iI_max (by omega) (by omega) (by omega) (by omega)]
    rfl
theorem mGod_ok {p c : Int} {a b : Int32} (hd : 9 ≤ d) (h : mf y T (I, L, R)) (e1 : a = iI p) (e2 : b = iI c) (h1 : i32 p) (h2 : 0 ≤ c) (h2' : c < 65536) (hQ : mP y (I, L, R) (oGod T p c) eI Q) : zS 201 d [zr (some y), zi a, zi b] (I, L, R) Q := by
  subst e1; subst e2
  have hM := h.2.1
  have k0 : R.2.1 y = some (7, 0) := hM.1
  refine zW.gz [] rfl rfl rfl (by omega) trivial ⟨_, rfl, k0⟩ rfl rfl (by decide +kernel) (by decide +kernel) ?_
  refine mNoG_ok (by omega) h rfl rfl h1 h2 h2' (fun hb I' L' m1 f1 t1 => ?_) (fun i hp hi hb I' L' m1 f1 t1 => ?_) (fun i hp hi hc hb I' L' m1 f1 t1 => ?_) (fun i hp hi hc hg I' L' tb m1 f1 t1 hG hL => ?_)
  · refine zW.gbf [] rfl rfl rfl (by omega) trivial (by simp (disch := omega) only [eq_self, not_true_eq_false, not_false_eq_true, upI_same, upL_same, upI_ne, upL_ne, iI_ixN, zI_mk, zL_mk, zP_mk, zK_mk, zN_mk, zwI_up, zwL_up, zg_some, Nat.reduceMod, Nat.reduceDiv, zcn_I, iI_add, iI_sub, iI_mul, iI_neg, iI_lt, iI_le, iI_eq, iI_lt0, iI_le0, iI_gt0, iI_ge0, iI_eq0] <;> omega) ?_
    refine zW.gr [] rfl rfl rfl (by omega) trivial trivial ?_; rw [zcn_I]
    exact mP_t hQ (c := 0) (v := 0) (show oGod T p c = (1, 0, T) by unfold oGod onG; exact onP_no hb) m1 (mgr_o f1) t1 0
  · subst hp
    refine zW.gbf [] rfl rfl rfl (by omega) trivial (by simp (disch := omega) only [eq_self, not_true_eq_false, not_false_eq_true, upI_same, upL_same, upI_ne, upL_ne, iI_ixN, zI_mk, zL_mk, zP_mk, zK_mk, zN_mk, zwI_up, zwL_up, zg_some, Nat.reduceMod, Nat.reduceDiv, zcn_I, iI_add, iI_sub, iI_mul, iI_neg, iI_lt, iI_le, iI_eq, iI_lt0, iI_le0, iI_gt0, iI_ge0, iI_eq0] <;> omega) ?_
    refine zW.gr [] rfl rfl rfl (by omega) trivial trivial ?_; rw [zcn_I]
    exact mP_t hQ (c := 1) (v := 0) (onG_2 hi hb) m1 (mgr_o f1) t1 0
  · subst hp
    refine zW.gbf [] rfl rfl rfl (by omega) trivial (by simp (disch := omega) only [eq_self, not_true_eq_false, not_false_eq_true, upI_same, upL_same, upI_ne, upL_ne, iI_ixN, zI_mk, zL_mk, zP_mk, zK_mk, zN_mk, zwI_up, zwL_up, zg_some, Nat.reduceMod, Nat.reduceDiv, zcn_I, iI_add, iI_sub, iI_mul, iI_neg, iI_lt, iI_le, iI_eq, iI_lt0, iI_le0, iI_gt0, iI_ge0, iI_eq0] <;> omega) ?_
    refine zW.gr [] rfl rfl rfl (by omega) trivial trivial ?_; rw [zcn_I]
    exact mP_t hQ (c := 2) (v := 0) ((onG_3 (r := fun _ _ => (0, 0, T)) hi hc).trans (sml_f hb)) m1 (mgr_o f1) t1 0
  · subst hp
    have eo : oGod T (i : Int) c = (0, mxd (pzF (if c = 113 then 0 else 1) (tPz T i)) (pzZ (tPz T i)), T) := (onG_3 (r := fun _ _ => (0, 0, T)) hi hc).trans (sml_t hg)
    obtain ⟨h4, hz, w1, w2, w3, w4, w5⟩ := m_pz m1 hi
    have vz := hG.2.2.2.2.2.2 0 (Nat.zero_le _)
    refine zW.gbt [] rfl rfl rfl (by omega) trivial (by simp (disch := omega) only [eq_self, not_true_eq_false, not_false_eq_true, upI_same, upL_same, upI_ne, upL_ne, iI_ixN, zI_mk, zL_mk, zP_mk, zK_mk, zN_mk, zwI_up, zwL_up, zg_some, Nat.reduceMod, Nat.reduceDiv, zcn_I, iI_add, iI_sub, iI_mul, iI_neg, iI_lt, iI_le, iI_eq, iI_lt0, iI_le0, iI_gt0, iI_ge0, iI_eq0] <;> omega) ?_
    refine zW.gz [] rfl rfl rfl (by omega) trivial ⟨_, rfl, k0⟩ rfl rfl (by decide +kernel) (by decide +kernel) ?_
    refine mDis_ok (by omega) m1 hi rfl rfl hc hg vz hL (fun I2 g1 g2 => ?_)
    refine zW.go [24] rfl (by omega) trivial ?_
    refine god_lp (f := pzF (if c = 113 then 0 else 1) (tPz T i)) (by omega) hM hg (fun s hs => pzF_rg hz hg hs) g2 ?_ (pzZ (tPz T i)) 0 (Nat.zero_add _) _ _ (zcn_I _) (zcn_I _)
    refine mP_0 hQ eo (mf_scr m1 (bfr_scr g1)) (mgr_o (mfo_tr f1 (scr_o (bfr_scr g1)))) ?_
    show I2 y 41 = iI 0
    rw [g1 y (by omega) (by omega)]
    exact t1
theorem many_lp {i Z : Nat} {c : Int32} {v : Int} {f : Nat → Int} (hd : 1 ≤ d) (hM : ML y R) (h8 : Z ≤ 800) (hv : i32 v) (hf : ∀ s, s < Z → 0 ≤ f s ∧ f s < 1000) (vf : ∀ s, s < Z → I (y + 1779) s = iI (f s))
    (hQ : Q (.inl (some (zi (iI (ct (fun s => decide (f s = v)) Z : Int))))) (I, L, R)) :
    ∀ n s, s + n = Z → ∀ (x5 x6 : Int32), x5 = iI (ct (fun s => decide (f s = v)) s : Int) → x6 = iI (s : Int) → zW 202 d 0 0 25 [some (zr (some y)), some (zi (iI (i : Int))), some (zi c), some (zi (iI v)), some (zi (iI (Z : Int))), some (zi x5), some (zi x6)] [] (I, L, R) Q
  | 0, s, hs, x4, x5, e4, e5 => by
    subst e4; subst e5
    obtain rfl : s = Z := by omega
    refine zW.gbt [] rfl rfl rfl (by omega) trivial (by simp (disch := omega) only [eq_self, not_true_eq_false, not_false_eq_true, upI_same, upL_same, upI_ne, upL_ne, iI_ixN, zI_mk, zL_mk, zP_mk, zK_mk, zN_mk, zwI_up, zwL_up, zg_some, Nat.reduceMod, Nat.reduceDiv, zcn_I, iI_add, iI_sub, iI_mul, iI_neg, iI_lt, iI_le, iI_eq, iI_lt0, iI_le0, iI_gt0, iI_ge0, iI_eq0] <;> omega) ?_
    exact zW.gr [] rfl rfl rfl (by omega) trivial trivial hQ
  | n + 1, s, hs, x4, x5, e4, e5 => by
    subst e4; subst e5
    have k0 : R.2.1 y = some (7, 0) := hM.1
    have v1 := vf s (by omega)
    have r1 := hf s (by omega)
    obtain ⟨hv1, hv2⟩ := hv
    have p14 : R.1 y 14 = some (y + 1779) := (hM.2.1 14 (by decide)).1; have k14 : R.2.1 (y + 1779) = some (20, 800) := (hM.2.1 14 (by decide)).2
    have NX : ∀ (u : Int32) (e : Bool), u = iI ((if e then 1 else 0 : Nat) : Int) → decide (f s = v) = e → zW 202 d 0 0 50 [some (zr (some y)), some (zi (iI (i : Int))), some (zi c), some (zi (iI v)), some (zi (iI (Z : Int))), some (zi (iI (ct (fun s => decide (f s = v)) s : Int))), some (zi (iI (s : Int)))] [zi u, zi (iI (ct (fun s => decide (f s = v)) s : Int))] (I, L, R) Q := fun u e hu he => by
      subst hu
      refine zW.go [25] rfl (by omega) trivial ?_
      refine many_lp hd hM h8 ⟨hv1, hv2⟩ hf vf hQ n (s + 1) (by omega) _ _ ?_ (by rw [zcn_I, iI_add]; rfl)
      rw [iI_add]
      show _ = iI ((ct (fun s => decide (f s = v)) s + (if decide (f s = v) then 1 else 0) : Nat) : Int)
      rw [he]
      exact iI_cg (by omega)
    refine zW.gbf [] rfl rfl rfl (by omega) trivial (by simp (disch := omega) only [eq_self, not_true_eq_false, not_false_eq_true, upI_same, upL_same, upI_ne, upL_ne, iI_ixN, zI_mk, zL_mk, zP_mk, zK_mk, zN_mk, zwI_up, zwL_up, zg_some, Nat.reduceMod, Nat.reduceDiv, zcn_I, iI_add, iI_sub, iI_mul, iI_neg, iI_lt, iI_le, iI_eq, iI_lt0, iI_le0, iI_gt0, iI_ge0, iI_eq0] <;> omega) ?_
    refine zW.gb [] rfl rfl rfl (by omega) (by simp (disch := omega) only [true_or, or_true, eq_self, Option.some.injEq, Prod.mk.injEq, zall_0, zall_1, zall_2, zob_iff, zar_iff, zis_iff, zkIs_some, zkHas_some, iI_vp, z01_I, z01_bz, zch_I, true_and, and_true, or_false, false_or, and_self, upI_same, upL_same, upI_ne, upL_ne, iI_ixN, zI_mk, zL_mk, zP_mk, zK_mk, zN_mk, zwI_up, zwL_up, zg_some, Nat.reduceMod, Nat.reduceDiv, zcn_I, iI_add, iI_sub, iI_mul, iI_neg, iI_lt, iI_le, iI_eq, iI_lt0, iI_le0, iI_gt0, iI_ge0, iI_eq0, k0, p14, k14] <;> omega) (fun h' => ?_) (fun h' => ?_) <;> simp (disch := omega) only [zcn_I, iI_add, iI_sub, iI_mul, iI_neg, iI_lt, iI_le, iI_eq, iI_lt0, iI_le0, iI_gt0, iI_ge0, iI_eq0, upI_same, upL_same, upI_ne, upL_ne, iI_ixN, zI_mk, zL_mk, zP_mk, zK_mk, zN_mk, zwI_up, zwL_up, zg_some, Nat.reduceMod, Nat.reduceDiv, p14, v1] at h'
    · exact zW.go [50] rfl (by omega) trivial (NX _ false (zcn_I _) (decide_eq_false (by omega)))
    · exact zW.go [50] rfl (by omega) trivial (NX _ true (zcn_I _) (decide_eq_true (by omega)))
theorem mMany_ok {p c v : Int} {a b e : Int32} (hd : 9 ≤ d) (h : mf y T (I, L, R)) (e1 : a = iI p) (e2 : b = iI c) (e3 : e = iI v) (h1 : i32 p) (h2 : 0 ≤ c) (h2' : c < 65536) (h3 : i32 v) (hQ : mP y (I, L, R) (oMany T p c v) eI Q) : zS 202 d [zr (some y), zi a, zi b, zi e] (I, L, R) Q := by
  subst e1; subst e2; subst e3
  have hM := h.2.1
  have k0 : R.2.1 y = some (7, 0) := hM.1
  refine zW.gz [] rfl rfl rfl (by omega) trivial ⟨_, rfl, k0⟩ rfl rfl (by decide +kernel) (by decide +kernel) ?_
  refine mNoG_ok (by omega) h rfl rfl h1 h2 h2' (fun hb I' L' m1 f1 t1 => ?_) (fun i hp hi hb I' L' m1 f1 t1 => ?_) (fun i hp hi hc hb I' L' m1 f1 t1 => ?_) (fun i hp hi hc hg I' L' tb m1 f1 t1 hG hL => ?_)
  · refine zW.gbf [] rfl rfl rfl (by omega) trivial (by simp (disch := omega) only [eq_self, not_true_eq_false, not_false_eq_true, upI_same, upL_same, upI_ne, upL_ne, iI_ixN, zI_mk, zL_mk, zP_mk, zK_mk, zN_mk, zwI_up, zwL_up, zg_some, Nat.reduceMod, Nat.reduceDiv, zcn_I, iI_add, iI_sub, iI_mul, iI_neg, iI_lt, iI_le, iI_eq, iI_lt0, iI_le0, iI_gt0, iI_ge0, iI_eq0] <;> omega) ?_
    refine zW.gr [] rfl rfl rfl (by omega) trivial trivial ?_; rw [zcn_I]
    exact mP_t hQ (c := 0) (v := 0) (show oMany T p c v = (1, 0, T) by unfold oMany onG; exact onP_no hb) m1 (mgr_o f1) t1 0
  · subst hp
    refine zW.gbf [] rfl rfl rfl (by omega) trivial (by simp (disch := omega) only [eq_self, not_true_eq_false, not_false_eq_true, upI_same, upL_same, upI_ne, upL_ne, iI_ixN, zI_mk, zL_mk, zP_mk, zK_mk, zN_mk, zwI_up, zwL_up, zg_some, Nat.reduceMod, Nat.reduceDiv, zcn_I, iI_add, iI_sub, iI_mul, iI_neg, iI_lt, iI_le, iI_eq, iI_lt0, iI_le0, iI_gt0, iI_ge0, iI_eq0] <;> omega) ?_
    refine zW.gr [] rfl rfl rfl (by omega) trivial trivial ?_; rw [zcn_I]
    exact mP_t hQ (c := 1) (v := 0) (onG_2 hi hb) m1 (mgr_o f1) t1 0
  · subst hp
    refine zW.gbf [] rfl rfl rfl (by omega) trivial (by simp (disch := omega) only [eq_self, not_true_eq_false, not_false_eq_true, upI_same, upL_same, upI_ne, upL_ne, iI_ixN, zI_mk, zL_mk, zP_mk, zK_mk, zN_mk, zwI_up, zwL_up, zg_some, Nat.reduceMod, Nat.reduceDiv, zcn_I, iI_add, iI_sub, iI_mul, iI_neg, iI_lt, iI_le, iI_eq, iI_lt0, iI_le0, iI_gt0, iI_ge0, iI_eq0] <;> omega) ?_
    refine zW.gr [] rfl rfl rfl (by omega) trivial trivial ?_; rw [zcn_I]
    exact mP_t hQ (c := 2) (v := 0) ((onG_3 (r := fun _ _ => (0, 0, T)) hi hc).trans (sml_f hb)) m1 (mgr_o f1) t1 0
  · subst hp
    have eo : oMany T (i : Int) c v = (0, ((ct (fun s => decide (pzF (if c = 113 then 0 else 1) (tPz T i) s = v)) (pzZ (tPz T i)) : Nat) : Int), T) := (onG_3 (r := fun _ _ => (0, 0, T)) hi hc).trans (sml_t hg)
    obtain ⟨h4, hz, w1, w2, w3, w4, w5⟩ := m_pz m1 hi
    have vz := hG.2.2.2.2.2.2 0 (Nat.zero_le _)
    refine zW.gbt [] rfl rfl rfl (by omega) trivial (by simp (disch := omega) only [eq_self, not_true_eq_false, not_false_eq_true, upI_same, upL_same, upI_ne, upL_ne, iI_ixN, zI_mk, zL_mk, zP_mk, zK_mk, zN_mk, zwI_up, zwL_up, zg_some, Nat.reduceMod, Nat.reduceDiv, zcn_I, iI_add, iI_sub, iI_mul, iI_neg, iI_lt, iI_le, iI_eq, iI_lt0, iI_le0, iI_gt0, iI_ge0, iI_eq0] <;> omega) ?_
    refine zW.gz [] rfl rfl rfl (by omega) trivial ⟨_, rfl, k0⟩ rfl rfl (by decide +kernel) (by decide +kernel) ?_
    refine mDis_ok (by omega) m1 hi rfl rfl hc hg vz hL (fun I2 g1 g2 => ?_)
    refine zW.go [25] rfl (by omega) trivial ?_
    refine many_lp (f := pzF (if c = 113 then 0 else 1) (tPz T i)) (by omega) hM hg h3 (fun s hs => pzF_rg hz hg hs) g2 ?_ (pzZ (tPz T i)) 0 (Nat.zero_add _) _ _ (zcn_I _) (zcn_I _)
    refine mP_0 hQ eo (mf_scr m1 (bfr_scr g1)) (mgr_o (mfo_tr f1 (scr_o (bfr_scr g1)))) ?_
    show I2 y 41 = iI 0
    rw [g1 y (by omega) (by omega)]
    exact t1
end MGOD
