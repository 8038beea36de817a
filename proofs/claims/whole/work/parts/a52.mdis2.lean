/-! The model's distances: whole. -/
theorem bA_t {nx : Nat → Nat → Nat} {t t' f ac : Nat} (h : ∀ a, a < ac → ∃ c, c ≤ t ∧ c ≤ t' ∧ itf (nx a) c (nx a f) = f) (b : bSt) : ∀ a, a ≤ ac → bA nx t f a b = bA nx t' f a b
  | 0, _ => rfl
  | a + 1, ha => by
    obtain ⟨c, c1, c2, c3⟩ := h a (by omega)
    show bW (nx a) f t (nx a f) (bA nx t f a b) = bW (nx a) f t' (nx a f) (bA nx t' f a b)
    rw [bA_t h b a (by omega)]
    exact bW_eq c3 c1 c2
theorem bQ_t {nx : Nat → Nat → Nat} {t t' ac sz : Nat} (hnx : ∀ a s, a < ac → s < sz → nx a s < sz) (h : ∀ a s, a < ac → s < sz → ∃ c, c ≤ t ∧ c ≤ t' ∧ itf (nx a) c (nx a s) = s) (b : bSt) (hb : bI sz b) : ∀ i, bQ nx t ac i b = bQ nx t' ac i b
  | 0 => rfl
  | i + 1 => by
    have ih := bQ_t hnx h b hb i
    have hq := bQ_I (t := t') hnx i b hb
    show (if i < (bQ nx t ac i b).2.length then bA nx t (nth (bQ nx t ac i b).2 i) ac (bQ nx t ac i b) else bQ nx t ac i b) = (if i < (bQ nx t' ac i b).2.length then bA nx t' (nth (bQ nx t' ac i b).2 i) ac (bQ nx t' ac i b) else bQ nx t' ac i b)
    rw [ih]
    by_cases c : i < (bQ nx t' ac i b).2.length
    · rw [if_pos c, if_pos c]
      exact bA_t (fun a ha => h a _ ha (hq.2.1 i c).1) _ ac (Nat.le_refl _)
    · rw [if_neg c, if_neg c]
theorem nx_cyc {n r : Nat} {tn : Nat → Nat → Nat} {col st : Nat → Nat} (hz : zOK n r tn col st) {a s : Nat} (ha : a < 2 * r) (hs : s < szG (zG r tn) 10) : ∃ c, c ≤ 7 ∧ itf (nxG (zG r tn) tn a) c (nxG (zG r tn) tn a s) = s := by
  obtain ⟨c, c1, c2, c3⟩ := hz.2.2.2.2.2.1 a ha
  have key : ∀ j s, s < szG (zG r tn) 10 → stG (zG r tn) (itf (nxG (zG r tn) tn a) j s) = fun p => stG (zG r tn) s (itf (tn a) j p) := fun j => by
    induction j with
    | zero => exact fun s _ => rfl
    | succ j ih =>
      intro s hs
      have h1 := ih (nxG (zG r tn) tn a s) (nxG_lt hz ha hs)
      have h2 := stG_nx hz ha hs
      funext p
      have h3 := congrFun h1 p
      show stG (zG r tn) (itf (nxG (zG r tn) tn a) j (nxG (zG r tn) tn a s)) p = _
      rw [h3, h2, itf_s]
  have h1 := key c s hs
  rw [c3] at h1
  have h1 : stG (zG r tn) (itf (nxG (zG r tn) tn a) c s) = stG (zG r tn) s := h1
  have l1 := itf_nx hz ha hs c
  have h2 := (stG_sp (zG_is hz) l1).2
  rw [h1, (stG_sp (zG_is hz) hs).2] at h2
  refine ⟨c - 1, by omega, ?_⟩
  rw [show c = (c - 1) + 1 by omega] at h2
  exact h2.symm
theorem bMm_S {y s : Nat} {v : Int} {I : Nat → Nat → Int32} {b : bSt} (h : bMm y I s b) (hn : b.1 s < 0) : bMm y (upI (upI I (y + 1779) s (iI v)) (y + 1780) b.2.length (iI (s : Int))) (s + 1) (bR s v b) := by
  unfold bR
  rw [if_pos hn]
  refine ⟨fun t ht => ?_, ?_⟩
  · rw [upI_row (by omega)]
    show _ = iI (if t = s then v else b.1 t)
    by_cases q : t = s
    · rw [if_pos q, q, upI_same]
    · rw [if_neg q, upI_ne (by omega)]
      exact h.1 t (by omega)
  · exact hl_snoc (I := upI I (y + 1779) s (iI v)) (by rw [upI_row (by omega)]; exact h.2)
theorem bMm_N {y s : Nat} {I : Nat → Nat → Int32} {b : bSt} (h : bMm y I s b) (hn : b.1 s = -1) : bMm y (upI I (y + 1779) s (iI (-1))) (s + 1) b := by
  refine ⟨fun t ht => ?_, by rw [upI_row (by omega)]; exact h.2⟩
  by_cases q : t = s
  · rw [q, upI_same, hn]
  · rw [upI_ne (by omega)]
    exact h.1 t (by omega)
section MDIS2
variable {d y : Nat} {T : tfT} {I : Nat → Nat → Int32} {L : Nat → Nat → Int64} {R : zRt} {Q : zO → zM → Prop}
theorem dis_out {i sz r mm : Nat} {c : Int} {nx : Nat → Nat → Nat} {b0 : bSt} (hd : 2 ≤ d) (hM : ML y R) (hi4 : i < 4) (h8 : sz ≤ 800) (hr : r ≤ 4) (hnx : ∀ a s, a < 2 * r → s < sz → nx a s < sz) (vr : I (y + 3) i = iI (r : Int)) (vx : ∀ s a, s < sz → a < 2 * r → I (y + 979 + s) a = iI (nx a s : Int)) (hc : c = 113 ∨ c = 116) (hmm : mm = if c = 113 then 1 else 800) (hb0 : bI sz b0)
    (hQ : ∀ I', bfr y I I' → bMm y I' sz (bQ nx mm (2 * r) 800 b0) → Q (.inl (some (zi (iI (sz : Int))))) (I', L, R)) :
    ∀ n q, q + n = 800 → ∀ (I1 : Nat → Nat → Int32) (x4 x5 : Int32) (v6 v7 v8 v9 v10 : Option zV), bfr y I I1 → bMm y I1 sz (bQ nx mm (2 * r) q b0) → x4 = iI ((bQ nx mm (2 * r) q b0).2.length : Int) → x5 = iI (q : Int) →
      zW 198 d 0 0 77 [some (zr (some y)), some (zi (iI (i : Int))), some (zi (iI c)), some (zi (iI (sz : Int))), some (zi x4), some (zi x5), v6, v7, v8, v9, v10] [] (I1, L, R) Q := by
  intro n q hq I1 x4 x5 v6 v7 v8 v9 v10 r1 r2 e4 e5
  have k0 : R.2.1 y = some (7, 0) := hM.1
  have hbq := bQ_I (t := mm) hnx q b0 hb0
  have hle := bI_le hbq
  subst e4; subst e5
  by_cases hend : (bQ nx mm (2 * r) q b0).2.length ≤ q
  · refine zW.gbt [] rfl rfl rfl (by omega) trivial (by simp (disch := omega) only [eq_self, not_true_eq_false, not_false_eq_true, upI_same, upL_same, upI_ne, upL_ne, iI_ixN, zI_mk, zL_mk, zP_mk, zK_mk, zN_mk, zwI_up, zwL_up, zg_some, Nat.reduceMod, Nat.reduceDiv, zcn_I, iI_add, iI_sub, iI_mul, iI_neg, iI_lt, iI_le, iI_eq, iI_lt0, iI_le0, iI_gt0, iI_ge0, iI_eq0] <;> omega) ?_
    have e : bQ nx mm (2 * r) 800 b0 = bQ nx mm (2 * r) q b0 := by
      have := bQ_end hend n
      rw [hq] at this
      exact this
    rw [e] at hQ
    exact zW.gr [] rfl rfl rfl (by omega) trivial trivial (hQ I1 r1 r2)
  · match n, hq with
    | 0, hq => exact absurd hle (by omega)
    | n + 1, hq =>
      have hlt : q < (bQ nx mm (2 * r) q b0).2.length := by omega
      have v1 := r2.2 q hlt
      have l1 := (hbq.2.1 q hlt).1
      have p15 : R.1 y 15 = some (y + 1780) := (hM.2.1 15 (by decide)).1; have k15 : R.2.1 (y + 1780) = some (20, 800) := (hM.2.1 15 (by decide)).2
      refine zW.gbf [] rfl rfl rfl (by omega) trivial (by simp (disch := omega) only [eq_self, not_true_eq_false, not_false_eq_true, upI_same, upL_same, upI_ne, upL_ne, iI_ixN, zI_mk, zL_mk, zP_mk, zK_mk, zN_mk, zwI_up, zwL_up, zg_some, Nat.reduceMod, Nat.reduceDiv, zcn_I, iI_add, iI_sub, iI_mul, iI_neg, iI_lt, iI_le, iI_eq, iI_lt0, iI_le0, iI_gt0, iI_ge0, iI_eq0] <;> omega) ?_
      refine zW.go [96] rfl (by omega) (by simp (disch := omega) only [true_or, or_true, eq_self, Option.some.injEq, Prod.mk.injEq, zall_0, zall_1, zall_2, zob_iff, zar_iff, zis_iff, zkIs_some, zkHas_some, iI_vp, z01_I, z01_bz, zch_I, true_and, and_true, or_false, false_or, and_self, upI_same, upL_same, upI_ne, upL_ne, iI_ixN, zI_mk, zL_mk, zP_mk, zK_mk, zN_mk, zwI_up, zwL_up, zg_some, Nat.reduceMod, Nat.reduceDiv, zcn_I, iI_add, iI_sub, iI_mul, iI_neg, iI_lt, iI_le, iI_eq, iI_lt0, iI_le0, iI_gt0, iI_ge0, iI_eq0, k0, p15, k15] <;> omega) ?_
      simp (disch := omega) only [upI_same, upL_same, upI_ne, upL_ne, iI_ixN, zI_mk, zL_mk, zP_mk, zK_mk, zN_mk, zwI_up, zwL_up, zg_some, Nat.reduceMod, Nat.reduceDiv, p15, v1]
      refine dis_mid (f := nth (bQ nx mm (2 * r) q b0).2 q) (b0 := bQ nx mm (2 * r) q b0) (I := I) hd hM hi4 h8 hr hnx vr vx hc hmm hbq hlt rfl (fun I' x w8 w9 w10 q1 q2 => ?_) (2 * r) 0 (Nat.zero_add _) I1 _ _ _ _ _ r1 r2 rfl (zcn_I _)
      have e : bQ nx mm (2 * r) (q + 1) b0 = bA nx mm (nth (bQ nx mm (2 * r) q b0).2 q) (2 * r) (bQ nx mm (2 * r) q b0) := if_pos hlt
      refine zW.go [77] rfl (by omega) trivial ?_
      rw [← e] at q2 ⊢
      exact dis_out hd hM hi4 h8 hr hnx vr vx hc hmm hb0 hQ n (q + 1) (by omega) I' _ _ _ _ _ _ _ q1 q2 rfl (by rw [zcn_I, iI_add]; rfl)
termination_by n => n
theorem sol_lp {i Z : Nat} {c : Int32} (hd : 3 ≤ d) (h : mf y T (I, L, R)) (hi : i < tPn T) (hZ : pzZ (tPz T i) = Z) (h8 : Z ≤ 800) (hL : mLdi y I (tPz T i))
    (hQ : ∀ I' x v, bfr y I I' → bMm y I' Z (bS (zSv (pzR (tPz T i)) (pzT (tPz T i)) (pzC (tPz T i))) Z) → zW 198 d 0 0 74 [some (zr (some y)), some (zi (iI (i : Int))), some (zi c), some (zi (iI (Z : Int))), some (zi (iI ((bS (zSv (pzR (tPz T i)) (pzT (tPz T i)) (pzC (tPz T i))) Z).2.length : Int))), some (zi x), v, none, none, none, none] [] (I', L, R) Q) :
    ∀ m s, s + m = Z → ∀ (I1 : Nat → Nat → Int32) (x4 x5 : Int32) (v6 : Option zV), bfr y I I1 → bMm y I1 s (bS (zSv (pzR (tPz T i)) (pzT (tPz T i)) (pzC (tPz T i))) s) → x4 = iI ((bS (zSv (pzR (tPz T i)) (pzT (tPz T i)) (pzC (tPz T i))) s).2.length : Int) → x5 = iI (s : Int) → zW 198 d 0 0 14 [some (zr (some y)), some (zi (iI (i : Int))), some (zi c), some (zi (iI (Z : Int))), some (zi x4), some (zi x5), v6, none, none, none, none] [] (I1, L, R) Q
  | 0, s, hs, I1, x4, x5, v6, r1, r2, e4, e5 => by
    subst e4; subst e5
    obtain rfl : s = Z := by omega
    exact zW.gbt [] rfl rfl rfl (by omega) trivial (by simp (disch := omega) only [eq_self, not_true_eq_false, not_false_eq_true, upI_same, upL_same, upI_ne, upL_ne, iI_ixN, zI_mk, zL_mk, zP_mk, zK_mk, zN_mk, zwI_up, zwL_up, zg_some, Nat.reduceMod, Nat.reduceDiv, zcn_I, iI_add, iI_sub, iI_mul, iI_neg, iI_lt, iI_le, iI_eq, iI_lt0, iI_le0, iI_gt0, iI_ge0, iI_eq0] <;> omega) (hQ I1 _ _ r1 r2)
  | m + 1, s, hs, I1, x4, x5, v6, r1, r2, e4, e5 => by
    subst e4; subst e5
    have hM := h.2.1
    have k0 : R.2.1 y = some (7, 0) := hM.1
    have sI : scr y I L I1 L := ⟨fun a q => r1 a (fun e => q (by unfold scA; omega)) (fun e => q (by unfold scA; omega)), fun k _ _ _ => by rw [r1 y (by omega) (by omega)], fun _ _ => rfl⟩
    have m1 : mf y T (I1, L, R) := mf_scr h sI
    obtain ⟨h4, hz, w1, w2, w3, w4, w5⟩ := m_pz m1 hi
    obtain ⟨s1, s2⟩ := stG_sp (zG_is hz) (show s < szG (zG (pzR (tPz T i)) (pzT (tPz T i))) 10 by
      have : szG (zG (pzR (tPz T i)) (pzT (tPz T i))) 10 = Z := hZ
      omega)
    have hbs := bS_I (sz := Z) (zSv (pzR (tPz T i)) (pzT (tPz T i)) (pzC (tPz T i))) s (by omega)
    have hle : (bS (zSv (pzR (tPz T i)) (pzT (tPz T i)) (pzC (tPz T i))) s).2.length ≤ Z := bI_le hbs.1
    have hms := hbs.2 s (Nat.le_refl _)
    have hlt := bI_lt hbs.1 (show s < Z by omega) (by omega)
    have vs := (hL s (by omega)).1
    have p12 : R.1 y 12 = some (y + 177) := (hM.2.1 12 (by decide)).1; have k12 : R.2.1 (y + 177) = some (25, 800) := (hM.2.1 12 (by decide)).2; have q12 : R.1 (y + 177) (s) = some (y + 178 + s) := (hM.2.2.2.2.2.2.2.1 (s) (by omega)).1.trans (congrArg some (by omega)); have j12 : R.2.1 (y + 178 + s) = some (20, 10) := (congrArg R.2.1 (by omega)).trans (hM.2.2.2.2.2.2.2.1 (s) (by omega)).2; have p14 : R.1 y 14 = some (y + 1779) := (hM.2.1 14 (by decide)).1; have k14 : R.2.1 (y + 1779) = some (20, 800) := (hM.2.1 14 (by decide)).2; have p15 : R.1 y 15 = some (y + 1780) := (hM.2.1 15 (by decide)).1; have k15 : R.2.1 (y + 1780) = some (20, 800) := (hM.2.1 15 (by decide)).2
    refine zW.gbf [] rfl rfl rfl (by omega) trivial (by simp (disch := omega) only [eq_self, not_true_eq_false, not_false_eq_true, upI_same, upL_same, upI_ne, upL_ne, iI_ixN, zI_mk, zL_mk, zP_mk, zK_mk, zN_mk, zwI_up, zwL_up, zg_some, Nat.reduceMod, Nat.reduceDiv, zcn_I, iI_add, iI_sub, iI_mul, iI_neg, iI_lt, iI_le, iI_eq, iI_lt0, iI_le0, iI_gt0, iI_ge0, iI_eq0] <;> omega) ?_
    refine zW.gz [] rfl rfl rfl (by omega) (by simp (disch := omega) only [true_or, or_true, eq_self, Option.some.injEq, Prod.mk.injEq, zall_0, zall_1, zall_2, zob_iff, zar_iff, zis_iff, zkIs_some, zkHas_some, iI_vp, z01_I, z01_bz, zch_I, true_and, and_true, or_false, false_or, and_self, upI_same, upL_same, upI_ne, upL_ne, iI_ixN, zI_mk, zL_mk, zP_mk, zK_mk, zN_mk, zwI_up, zwL_up, zg_some, Nat.reduceMod, Nat.reduceDiv, zcn_I, iI_add, iI_sub, iI_mul, iI_neg, iI_lt, iI_le, iI_eq, iI_lt0, iI_le0, iI_gt0, iI_ge0, iI_eq0, k0, p12, k12] <;> omega) ⟨_, rfl, k0⟩ rfl rfl (by decide +kernel) (by decide +kernel) ?_
    simp (disch := omega) only [upI_same, upL_same, upI_ne, upL_ne, iI_ixN, zI_mk, zL_mk, zP_mk, zK_mk, zN_mk, zwI_up, zwL_up, zg_some, Nat.reduceMod, Nat.reduceDiv, p12, q12]
    refine solvB_ok (f := stG (pzG (tPz T i)) s) (by omega) m1 hi rfl j12 (fun p hp => by rw [r1 _ (by omega) (by omega)]; exact vs p hp) (zG_pmn hz s1) (fun q hq => ?_)
    have eS : bS (zSv (pzR (tPz T i)) (pzT (tPz T i)) (pzC (tPz T i))) (s + 1) = if zSv (pzR (tPz T i)) (pzT (tPz T i)) (pzC (tPz T i)) s then bR s 0 (bS (zSv (pzR (tPz T i)) (pzT (tPz T i)) (pzC (tPz T i))) s) else bS (zSv (pzR (tPz T i)) (pzT (tPz T i)) (pzC (tPz T i))) s := rfl
    rcases hq with ⟨g, rfl⟩ | ⟨g, rfl⟩
    · have e1 : zSv (pzR (tPz T i)) (pzT (tPz T i)) (pzC (tPz T i)) s = true := dc_t.mpr g
      rw [e1, if_pos rfl] at eS
      refine zW.gbf [] rfl rfl rfl (by omega) (by simp (disch := omega) only [true_or, or_true, eq_self, Option.some.injEq, Prod.mk.injEq, zall_0, zall_1, zall_2, zob_iff, zar_iff, zis_iff, zkIs_some, zkHas_some, iI_vp, z01_I, z01_bz, zch_I, true_and, and_true, or_false, false_or, and_self, upI_same, upL_same, upI_ne, upL_ne, iI_ixN, zI_mk, zL_mk, zP_mk, zK_mk, zN_mk, zwI_up, zwL_up, zg_some, Nat.reduceMod, Nat.reduceDiv, zcn_I, iI_add, iI_sub, iI_mul, iI_neg, iI_lt, iI_le, iI_eq, iI_lt0, iI_le0, iI_gt0, iI_ge0, iI_eq0, k0] <;> omega) (by simp (disch := omega) only [eq_self, not_true_eq_false, not_false_eq_true, upI_same, upL_same, upI_ne, upL_ne, iI_ixN, zI_mk, zL_mk, zP_mk, zK_mk, zN_mk, zwI_up, zwL_up, zg_some, Nat.reduceMod, Nat.reduceDiv, zcn_I, iI_add, iI_sub, iI_mul, iI_neg, iI_lt, iI_le, iI_eq, iI_lt0, iI_le0, iI_gt0, iI_ge0, iI_eq0] <;> omega) ?_
      refine zW.go [50] rfl (by omega) trivial ?_
      simp (disch := omega) only [upI_same, upL_same, upI_ne, upL_ne, iI_ixN, zI_mk, zL_mk, zP_mk, zK_mk, zN_mk, zwI_up, zwL_up, zg_some, Nat.reduceMod, Nat.reduceDiv, p14]
      refine zW.gbf [] rfl rfl rfl (by omega) (by simp (disch := omega) only [true_or, or_true, eq_self, Option.some.injEq, Prod.mk.injEq, zall_0, zall_1, zall_2, zob_iff, zar_iff, zis_iff, zkIs_some, zkHas_some, iI_vp, z01_I, z01_bz, zch_I, true_and, and_true, or_false, false_or, and_self, upI_same, upL_same, upI_ne, upL_ne, iI_ixN, zI_mk, zL_mk, zP_mk, zK_mk, zN_mk, zwI_up, zwL_up, zg_some, Nat.reduceMod, Nat.reduceDiv, zcn_I, iI_add, iI_sub, iI_mul, iI_neg, iI_lt, iI_le, iI_eq, iI_lt0, iI_le0, iI_gt0, iI_ge0, iI_eq0, k14] <;> omega) (by simp (disch := omega) only [eq_self, not_true_eq_false, not_false_eq_true, upI_same, upL_same, upI_ne, upL_ne, iI_ixN, zI_mk, zL_mk, zP_mk, zK_mk, zN_mk, zwI_up, zwL_up, zg_some, Nat.reduceMod, Nat.reduceDiv, zcn_I, iI_add, iI_sub, iI_mul, iI_neg, iI_lt, iI_le, iI_eq, iI_lt0, iI_le0, iI_gt0, iI_ge0, iI_eq0] <;> omega) ?_
      refine zW.go [14] rfl (by omega) ?_ ?_
      · simp (disch := omega) only [true_or, or_true, eq_self, Option.some.injEq, Prod.mk.injEq, zall_0, zall_1, zall_2, zob_iff, zar_iff, zis_iff, zkIs_some, zkHas_some, iI_vp, z01_I, z01_bz, zch_I, true_and, and_true, or_false, false_or, and_self, upI_same, upL_same, upI_ne, upL_ne, iI_ixN, zI_mk, zL_mk, zP_mk, zK_mk, zN_mk, zwI_up, zwL_up, zg_some, Nat.reduceMod, Nat.reduceDiv, k0, p15, k15]
        omega
      simp (disch := omega) only [upI_same, upL_same, upI_ne, upL_ne, iI_ixN, zI_mk, zL_mk, zP_mk, zK_mk, zN_mk, zwI_up, zwL_up, zg_some, Nat.reduceMod, Nat.reduceDiv, p15, zcn_I]
      have b2 := bMm_S (v := 0) r2 (show (bS (zSv (pzR (tPz T i)) (pzT (tPz T i)) (pzC (tPz T i))) s).1 s < 0 by omega)
      rw [← eS] at b2
      refine sol_lp hd h hi hZ h8 hL hQ m (s + 1) (by omega) _ _ _ _ (fun q q1 q2 => by rw [upI_row q2, upI_row q1]; exact r1 q q1 q2) b2 ?_ (by rw [iI_add]; rfl)
      rw [eS, bR_len (by omega), iI_add]
      rfl
    · have e1 : zSv (pzR (tPz T i)) (pzT (tPz T i)) (pzC (tPz T i)) s = false := dc_f.mpr g
      rw [e1] at eS
      have eS : bS (zSv (pzR (tPz T i)) (pzT (tPz T i)) (pzC (tPz T i))) (s + 1) = bS (zSv (pzR (tPz T i)) (pzT (tPz T i)) (pzC (tPz T i))) s := eS
      refine zW.gbt [] rfl rfl rfl (by omega) (by simp (disch := omega) only [true_or, or_true, eq_self, Option.some.injEq, Prod.mk.injEq, zall_0, zall_1, zall_2, zob_iff, zar_iff, zis_iff, zkIs_some, zkHas_some, iI_vp, z01_I, z01_bz, zch_I, true_and, and_true, or_false, false_or, and_self, upI_same, upL_same, upI_ne, upL_ne, iI_ixN, zI_mk, zL_mk, zP_mk, zK_mk, zN_mk, zwI_up, zwL_up, zg_some, Nat.reduceMod, Nat.reduceDiv, zcn_I, iI_add, iI_sub, iI_mul, iI_neg, iI_lt, iI_le, iI_eq, iI_lt0, iI_le0, iI_gt0, iI_ge0, iI_eq0, k0] <;> omega) (by simp (disch := omega) only [eq_self, not_true_eq_false, not_false_eq_true, upI_same, upL_same, upI_ne, upL_ne, iI_ixN, zI_mk, zL_mk, zP_mk, zK_mk, zN_mk, zwI_up, zwL_up, zg_some, Nat.reduceMod, Nat.reduceDiv, zcn_I, iI_add, iI_sub, iI_mul, iI_neg, iI_lt, iI_le, iI_eq, iI_lt0, iI_le0, iI_gt0, iI_ge0, iI_eq0] <;> omega) ?_
      refine zW.go [50] rfl (by omega) trivial ?_
      simp (disch := omega) only [upI_same, upL_same, upI_ne, upL_ne, iI_ixN, zI_mk, zL_mk, zP_mk, zK_mk, zN_mk, zwI_up, zwL_up, zg_some, Nat.reduceMod, Nat.reduceDiv, p14, zcn_I]
      refine zW.gbt [] rfl rfl rfl (by omega) (by simp (disch := omega) only [true_or, or_true, eq_self, Option.some.injEq, Prod.mk.injEq, zall_0, zall_1, zall_2, zob_iff, zar_iff, zis_iff, zkIs_some, zkHas_some, iI_vp, z01_I, z01_bz, zch_I, true_and, and_true, or_false, false_or, and_self, upI_same, upL_same, upI_ne, upL_ne, iI_ixN, zI_mk, zL_mk, zP_mk, zK_mk, zN_mk, zwI_up, zwL_up, zg_some, Nat.reduceMod, Nat.reduceDiv, zcn_I, iI_add, iI_sub, iI_mul, iI_neg, iI_lt, iI_le, iI_eq, iI_lt0, iI_le0, iI_gt0, iI_ge0, iI_eq0, k14] <;> omega) (by simp (disch := omega) only [eq_self, not_true_eq_false, not_false_eq_true, upI_same, upL_same, upI_ne, upL_ne, iI_ixN, zI_mk, zL_mk, zP_mk, zK_mk, zN_mk, zwI_up, zwL_up, zg_some, Nat.reduceMod, Nat.reduceDiv, zcn_I, iI_add, iI_sub, iI_mul, iI_neg, iI_lt, iI_le, iI_eq, iI_lt0, iI_le0, iI_gt0, iI_ge0, iI_eq0] <;> omega) ?_
      refine zW.go [14] rfl (by omega) trivial ?_
      simp (disch := omega) only [upI_same, upL_same, upI_ne, upL_ne, iI_ixN, zI_mk, zL_mk, zP_mk, zK_mk, zN_mk, zwI_up, zwL_up, zg_some, Nat.reduceMod, Nat.reduceDiv]
      have b2 := bMm_N r2 hms
      rw [← eS] at b2
      refine sol_lp hd h hi hZ h8 hL hQ m (s + 1) (by omega) _ _ _ _ (fun q q1 q2 => by rw [upI_row q1]; exact r1 q q1 q2) b2 (by rw [eS]) (by rw [zcn_I, iI_add]; rfl)
theorem mDis_ok {i : Nat} {c : Int} {a b : Int32} (hd : 4 ≤ d) (h : mf y T (I, L, R)) (hi : i < tPn T) (e1 : a = iI (i : Int)) (e2 : b = iI c) (hc : c = 113 ∨ c = 116) (h8 : pzZ (tPz T i) ≤ 800) (vz : L (y + 173) 0 = iL (pzZ (tPz T i) : Int)) (hL : mLdi y I (tPz T i))
    (hQ : ∀ I', bfr y I I' → (∀ s, s < pzZ (tPz T i) → I' (y + 1779) s = iI (pzF (if c = 113 then 0 else 1) (tPz T i) s)) → Q (.inl (some (zi (iI (pzZ (tPz T i) : Int))))) (I', L, R)) : zS 198 d [zr (some y), zi a, zi b] (I, L, R) Q := by
  subst e1; subst e2
  have hM := h.2.1
  have k0 : R.2.1 y = some (7, 0) := hM.1
  obtain ⟨h4, hz, w1, w2, w3, w4, w5⟩ := m_pz h hi
  obtain ⟨Z, hZ⟩ : ∃ Z, pzZ (tPz T i) = Z := ⟨_, rfl⟩
  have hZ' : szG (zG (pzR (tPz T i)) (pzT (tPz T i))) 10 = Z := hZ
  rw [hZ] at h8 vz hQ
  have p8 : R.1 y 8 = some (y + 173) := (hM.2.1 8 (by decide)).1; have k8 : R.2.1 (y + 173) = some (21, 11) := (hM.2.1 8 (by decide)).2
  refine zW.go [14] rfl (by omega) (by simp (disch := omega) only [true_or, or_true, eq_self, Option.some.injEq, Prod.mk.injEq, zall_0, zall_1, zall_2, zob_iff, zar_iff, zis_iff, zkIs_some, zkHas_some, iI_vp, z01_I, z01_bz, zch_I, true_and, and_true, or_false, false_or, and_self, upI_same, upL_same, upI_ne, upL_ne, iI_ixN, zI_mk, zL_mk, zP_mk, zK_mk, zN_mk, zwI_up, zwL_up, zg_some, Nat.reduceMod, Nat.reduceDiv, zcn_I, iI_add, iI_sub, iI_mul, iI_neg, iI_lt, iI_le, iI_eq, iI_lt0, iI_le0, iI_gt0, iI_ge0, iI_eq0, k0, p8, k8] <;> omega) ?_
  simp (disch := omega) only [upI_same, upL_same, upI_ne, upL_ne, iI_ixN, zI_mk, zL_mk, zP_mk, zK_mk, zN_mk, zwI_up, zwL_up, zg_some, Nat.reduceMod, Nat.reduceDiv, zcn_I, c0i, p8, vz, iL_I]
  refine sol_lp (c := iI c) (by omega) h hi hZ h8 hL (fun I1 x v r1 r2 => ?_) Z 0 (Nat.zero_add _) I _ _ _ (fun _ _ _ => rfl) ⟨fun s q => absurd q (Nat.not_lt_zero s), fun j q => absurd q (Nat.not_lt_zero j)⟩ rfl rfl
  obtain ⟨mm, hmm⟩ : ∃ mm, mm = if c = 113 then 1 else 800 := ⟨_, rfl⟩
  have hnx : ∀ a s, a < 2 * pzR (tPz T i) → s < Z → nxG (zG (pzR (tPz T i)) (pzT (tPz T i))) (pzT (tPz T i)) a s < Z := fun a s q1 q2 => by
    have := nxG_lt hz q1 (show s < szG (zG (pzR (tPz T i)) (pzT (tPz T i))) 10 by omega)
    omega
  have hbs := (bS_I (sz := Z) (zSv (pzR (tPz T i)) (pzT (tPz T i)) (pzC (tPz T i))) Z (Nat.le_refl _)).1
  refine zW.go [77] rfl (by omega) trivial ?_
  refine dis_out (nx := nxG (zG (pzR (tPz T i)) (pzT (tPz T i))) (pzT (tPz T i))) (I := I1) (mm := mm) (by omega) hM h4 h8 hz.2.2.1 hnx (by rw [r1 _ (by omega) (by omega)]; exact w2) (fun s a q1 q2 => by rw [r1 _ (by omega) (by omega)]; exact (hL s (by omega)).2 a q2) hc hmm hbs (fun I2 g1 g2 => ?_) 800 0 rfl I1 _ _ _ _ _ _ _ (fun _ _ _ => rfl) r2 rfl (zcn_I _)
  refine hQ I2 (fun q q1 q2 => (g1 q q1 q2).trans (r1 q q1 q2)) (fun s hs => ?_)
  rw [g2.1 s hs]
  have e : bQ (nxG (zG (pzR (tPz T i)) (pzT (tPz T i))) (pzT (tPz T i))) mm (2 * pzR (tPz T i)) 800 (bS (zSv (pzR (tPz T i)) (pzT (tPz T i)) (pzC (tPz T i))) Z) = zBF (if c = 113 then 0 else 1) (pzR (tPz T i)) (pzT (tPz T i)) (pzC (tPz T i)) := by
    unfold zBF bF
    rw [hZ']
    rcases hc with hc | hc
    · rw [hmm, if_pos hc, if_pos hc]
      rfl
    · rw [hmm, if_neg (by omega), if_neg (by omega)]
      refine bQ_t hnx (fun a s q1 q2 => ?_) _ hbs 800
      obtain ⟨c', c1, c2⟩ := nx_cyc hz q1 (show s < szG (zG (pzR (tPz T i)) (pzT (tPz T i))) 10 by omega)
      exact ⟨c', by omega, by show c' ≤ 8; omega, c2⟩
  rw [e, fF_eq (zBF (if c = 113 then 0 else 1) (pzR (tPz T i)) (pzT (tPz T i)) (pzC (tPz T i)))]
end MDIS2
