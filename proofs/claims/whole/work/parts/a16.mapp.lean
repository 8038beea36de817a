/-! The model does words. -/
section MAPP
variable {d y : Nat} {T : tfT} {I : Nat → Nat → Int32} {L : Nat → Nat → Int64} {R : zRt} {Q : zO → zM → Prop}
theorem hasR_lp {i : Nat} {l : List Nat} (hd : 1 ≤ d) (h : mf y T (I, L, R)) (hi : i < tPn T) (hl : spR y I l) (hn : l.length ≤ 120) (h8 : ∀ t, t ∈ l → t < 8) (hQ : ∀ q, tru (∀ k, k < l.length → nth l k / 2 < pzR (tPz T i)) q → Q (.inl (some (zi q))) (I, L, R)) :
    ∀ n k, k + n = l.length → ∀ (x z : Int32), tru (∀ j, j < k → nth l j / 2 < pzR (tPz T i)) x → z = iI (k : Int) → zW 221 d 0 0 4 [some (zr (some y)), some (zi (iI (i : Int))), some (zi x), some (zi z)] [] (I, L, R) Q
  | 0, k, hk, x, z, hx, e2 => by
    subst e2
    have k0 : R.2.1 y = some (7, 0) := h.2.1.1
    obtain ⟨l1, l2⟩ := hl
    obtain rfl : k = l.length := by omega
    refine zW.gbt [] rfl rfl rfl (by omega) (by simp (disch := omega) only [true_or, or_true, eq_self, Option.some.injEq, Prod.mk.injEq, zall_0, zall_1, zall_2, zob_iff, zar_iff, zis_iff, zkIs_some, zkHas_some, iI_vp, z01_I, z01_bz, zch_I, true_and, and_true, or_false, false_or, and_self, upI_same, upL_same, upI_ne, upL_ne, iI_ixN, zI_mk, zL_mk, zP_mk, zK_mk, zN_mk, zwI_up, zwL_up, zg_some, Nat.reduceMod, Nat.reduceDiv, zcn_I, iI_add, iI_sub, iI_mul, iI_neg, iI_lt, iI_le, iI_eq, iI_lt0, iI_le0, iI_gt0, iI_ge0, iI_eq0, k0] <;> omega) (by simp (disch := omega) only [eq_self, not_true_eq_false, not_false_eq_true, upI_same, upL_same, upI_ne, upL_ne, iI_ixN, zI_mk, zL_mk, zP_mk, zK_mk, zN_mk, zwI_up, zwL_up, zg_some, Nat.reduceMod, Nat.reduceDiv, zcn_I, iI_add, iI_sub, iI_mul, iI_neg, iI_lt, iI_le, iI_eq, iI_lt0, iI_le0, iI_gt0, iI_ge0, iI_eq0, l1] <;> omega) ?_
    exact zW.gr [] rfl rfl rfl (by omega) trivial (tru_01 hx) (hQ _ hx)
  | n + 1, k, hk, x, z, hx, e2 => by
    subst e2
    have hM := h.2.1
    have k0 : R.2.1 y = some (7, 0) := hM.1
    obtain ⟨h4, hz, w1, w2, w3, w4, w5⟩ := m_pz h hi
    have hr4 := hz.2.2.1
    obtain ⟨l1, l2⟩ := hl
    have v1 := l2 k (by omega)
    have t1 := h8 _ (nth_mem (l := l) (i := k) (by omega))
    have n2 : ¬ zcn 2 = 0 := by decide +kernel
    have p18 : R.1 y 18 = some (y + 1783) := (hM.2.1 18 (by decide)).1; have k18 : R.2.1 (y + 1783) = some (20, 120) := (hM.2.1 18 (by decide)).2; have p2 : R.1 y 2 = some (y + 3) := (hM.2.1 2 (by decide)).1; have k2 : R.2.1 (y + 3) = some (20, 4) := (hM.2.1 2 (by decide)).2
    have NX : ∀ u : Int32, tru (nth l k / 2 < pzR (tPz T i)) u → zW 221 d 0 0 35 [some (zr (some y)), some (zi (iI (i : Int))), some (zi x), some (zi (iI (k : Int)))] [zi u, zi x] (I, L, R) Q := fun u hu => by
      refine zW.go [4] rfl (by omega) trivial ?_
      exact hasR_lp hd h hi ⟨l1, l2⟩ hn h8 hQ n (k + 1) (by omega) _ _ (tru_cg all_s (tru_and hx hu)) (by rw [zcn_I, iI_add]; rfl)
    refine zW.gbf [] rfl rfl rfl (by omega) (by simp (disch := omega) only [true_or, or_true, eq_self, Option.some.injEq, Prod.mk.injEq, zall_0, zall_1, zall_2, zob_iff, zar_iff, zis_iff, zkIs_some, zkHas_some, iI_vp, z01_I, z01_bz, zch_I, true_and, and_true, or_false, false_or, and_self, upI_same, upL_same, upI_ne, upL_ne, iI_ixN, zI_mk, zL_mk, zP_mk, zK_mk, zN_mk, zwI_up, zwL_up, zg_some, Nat.reduceMod, Nat.reduceDiv, zcn_I, iI_add, iI_sub, iI_mul, iI_neg, iI_lt, iI_le, iI_eq, iI_lt0, iI_le0, iI_gt0, iI_ge0, iI_eq0, k0] <;> omega) (by simp (disch := omega) only [eq_self, not_true_eq_false, not_false_eq_true, upI_same, upL_same, upI_ne, upL_ne, iI_ixN, zI_mk, zL_mk, zP_mk, zK_mk, zN_mk, zwI_up, zwL_up, zg_some, Nat.reduceMod, Nat.reduceDiv, zcn_I, iI_add, iI_sub, iI_mul, iI_neg, iI_lt, iI_le, iI_eq, iI_lt0, iI_le0, iI_gt0, iI_ge0, iI_eq0, l1] <;> omega) ?_
    refine zW.gb [] rfl rfl rfl (by omega) ?_ (fun h' => ?_) (fun h' => ?_)
    · simp (disch := omega) only [true_or, or_true, eq_self, Option.some.injEq, Prod.mk.injEq, zall_0, zall_1, zall_2, zob_iff, zar_iff, zis_iff, zkIs_some, zkHas_some, iI_vp, z01_I, z01_bz, zch_I, true_and, and_true, or_false, false_or, and_self, upI_same, upL_same, upI_ne, upL_ne, iI_ixN, zI_mk, zL_mk, zP_mk, zK_mk, zN_mk, zwI_up, zwL_up, zg_some, Nat.reduceMod, Nat.reduceDiv, k0, p18, k18, p2, k2, n2, not_false_eq_true, iI_vp]
      omega
    · simp (disch := omega) only [upI_same, upL_same, upI_ne, upL_ne, iI_ixN, zI_mk, zL_mk, zP_mk, zK_mk, zN_mk, zwI_up, zwL_up, zg_some, Nat.reduceMod, Nat.reduceDiv, p18, v1, p2, w2] at h'
      rw [zcn_I, half_I t1, iI_le (by omega) (by omega) (by omega) (by omega)] at h'
      exact zW.go [35] rfl (by omega) trivial (NX _ (tru_f (by omega)))
    · simp (disch := omega) only [upI_same, upL_same, upI_ne, upL_ne, iI_ixN, zI_mk, zL_mk, zP_mk, zK_mk, zN_mk, zwI_up, zwL_up, zg_some, Nat.reduceMod, Nat.reduceDiv, p18, v1, p2, w2] at h'
      rw [zcn_I, half_I t1, iI_le (by omega) (by omega) (by omega) (by omega)] at h'
      exact zW.go [35] rfl (by omega) trivial (NX _ (tru_t (by omega)))
theorem all_nth {l : List Nat} {P : Nat → Prop} : (∀ k, k < l.length → P (nth l k)) ↔ ∀ t, t ∈ l → P t := ⟨fun h t ht => by
  obtain ⟨k, hk, e⟩ := List.getElem_of_mem ht
  have := h k hk
  unfold nth at this
  rw [List.getElem?_eq_getElem hk] at this
  exact e ▸ this, fun h k hk => h _ (nth_mem hk)⟩
theorem hasR_ok {i : Nat} {l : List Nat} {x : Int32} (hd : 1 ≤ d) (h : mf y T (I, L, R)) (hi : i < tPn T) (e : x = iI (i : Int)) (hl : spR y I l) (hn : l.length ≤ 120) (h8 : ∀ t, t ∈ l → t < 8) (hQ : ∀ q, tru (∀ t, t ∈ l → t / 2 < pzR (tPz T i)) q → Q (.inl (some (zi q))) (I, L, R)) : zS 221 d [zr (some y), zi x] (I, L, R) Q := by
  subst e
  refine zW.go [4] rfl (by omega) trivial ?_
  exact hasR_lp hd h hi hl hn h8 (fun q hq => hQ q (tru_cg (all_nth (P := fun t => t / 2 < pzR (tPz T i))) hq)) l.length 0 (by omega) _ _ (tru_t all_0) (zcn_I _)
/-- a state after turns -/
def tSaf (T : tfT) (i : Nat) (l : List Nat) : tfT := tSetP T i (pzSt (tPz T i) (saf (pzT (tPz T i)) (pzS (tPz T i)) l))
theorem tSaf_s (T : tfT) (i : Nat) (l : List Nat) (t : Nat) : tSetP (tSaf T i l) i (pzSt (tPz (tSaf T i l) i) (fun p => pzS (tPz (tSaf T i l) i) (pzT (tPz (tSaf T i l) i) t p))) = tSaf T i (l ++ [t]) := by
  unfold tSaf
  rw [tPz_s, tSetP_2, saf_snoc]
  rfl
theorem tSaf_0 (T : tfT) (i : Nat) : tSaf T i [] = T := tSetP_id
theorem tSaf_z (T : tfT) (i : Nat) (l : List Nat) : tPz (tSaf T i l) i = pzSt (tPz T i) (saf (pzT (tPz T i)) (pzS (tPz T i)) l) := tPz_s
theorem app_lp {i : Nat} {l : List Nat} (hd : 3 ≤ d) (hi : i < tPn T) (ht : ∀ t, t ∈ l → t / 2 < pzR (tPz T i)) (hn : l.length ≤ 120) {I0 : Nat → Nat → Int32}
    (hQ : ∀ I' x, mf y (tSaf T i l) (I', L, R) → mfo y I0 L I' L → I' y = I0 y → zW 222 d 0 0 70 [some (zr (some y)), some (zi (iI (i : Int))), some (zi x)] [] (I', L, R) Q) :
    ∀ n k, k + n = l.length → ∀ (I1 : Nat → Nat → Int32) (x : Int32), mf y (tSaf T i (l.take k)) (I1, L, R) → mfo y I0 L I1 L → I1 y = I0 y → spR y I1 l → x = iI (k : Int) → zW 222 d 0 0 45 [some (zr (some y)), some (zi (iI (i : Int))), some (zi x)] [] (I1, L, R) Q
  | 0, k, hk, I1, x, f1, f2, f3, f4, e => by
    subst e
    have k0 : R.2.1 y = some (7, 0) := f1.2.1.1
    have f41 := f4.1
    obtain rfl : k = l.length := by omega
    rw [List.take_length] at f1
    exact zW.gbt [] rfl rfl rfl (by omega) (by simp (disch := omega) only [true_or, or_true, eq_self, Option.some.injEq, Prod.mk.injEq, zall_0, zall_1, zall_2, zob_iff, zar_iff, zis_iff, zkIs_some, zkHas_some, iI_vp, z01_I, z01_bz, zch_I, true_and, and_true, or_false, false_or, and_self, upI_same, upL_same, upI_ne, upL_ne, iI_ixN, zI_mk, zL_mk, zP_mk, zK_mk, zN_mk, zwI_up, zwL_up, zg_some, Nat.reduceMod, Nat.reduceDiv, zcn_I, iI_add, iI_sub, iI_mul, iI_neg, iI_lt, iI_le, iI_eq, iI_lt0, iI_le0, iI_gt0, iI_ge0, iI_eq0, k0] <;> omega) (by simp (disch := omega) only [eq_self, not_true_eq_false, not_false_eq_true, upI_same, upL_same, upI_ne, upL_ne, iI_ixN, zI_mk, zL_mk, zP_mk, zK_mk, zN_mk, zwI_up, zwL_up, zg_some, Nat.reduceMod, Nat.reduceDiv, zcn_I, iI_add, iI_sub, iI_mul, iI_neg, iI_lt, iI_le, iI_eq, iI_lt0, iI_le0, iI_gt0, iI_ge0, iI_eq0, f41] <;> omega) (hQ I1 _ f1 f2 f3)
  | n + 1, k, hk, I1, x, f1, f2, f3, f4, e => by
    subst e
    have hM := f1.2.1
    have k0 : R.2.1 y = some (7, 0) := hM.1
    have f41 := f4.1
    have v1 := f4.2 k (by omega)
    have t1 := ht _ (nth_mem (l := l) (i := k) (by omega))
    have h4 : i < 4 := (m_pz f1 hi).1
    have p18 : R.1 y 18 = some (y + 1783) := (hM.2.1 18 (by decide)).1; have k18 : R.2.1 (y + 1783) = some (20, 120) := (hM.2.1 18 (by decide)).2
    refine zW.gbf [] rfl rfl rfl (by omega) (by simp (disch := omega) only [true_or, or_true, eq_self, Option.some.injEq, Prod.mk.injEq, zall_0, zall_1, zall_2, zob_iff, zar_iff, zis_iff, zkIs_some, zkHas_some, iI_vp, z01_I, z01_bz, zch_I, true_and, and_true, or_false, false_or, and_self, upI_same, upL_same, upI_ne, upL_ne, iI_ixN, zI_mk, zL_mk, zP_mk, zK_mk, zN_mk, zwI_up, zwL_up, zg_some, Nat.reduceMod, Nat.reduceDiv, zcn_I, iI_add, iI_sub, iI_mul, iI_neg, iI_lt, iI_le, iI_eq, iI_lt0, iI_le0, iI_gt0, iI_ge0, iI_eq0, k0] <;> omega) (by simp (disch := omega) only [eq_self, not_true_eq_false, not_false_eq_true, upI_same, upL_same, upI_ne, upL_ne, iI_ixN, zI_mk, zL_mk, zP_mk, zK_mk, zN_mk, zwI_up, zwL_up, zg_some, Nat.reduceMod, Nat.reduceDiv, zcn_I, iI_add, iI_sub, iI_mul, iI_neg, iI_lt, iI_le, iI_eq, iI_lt0, iI_le0, iI_gt0, iI_ge0, iI_eq0, f41] <;> omega) ?_
    refine zW.gz [] rfl rfl rfl (by omega) (by simp (disch := omega) only [true_or, or_true, eq_self, Option.some.injEq, Prod.mk.injEq, zall_0, zall_1, zall_2, zob_iff, zar_iff, zis_iff, zkIs_some, zkHas_some, iI_vp, z01_I, z01_bz, zch_I, true_and, and_true, or_false, false_or, and_self, upI_same, upL_same, upI_ne, upL_ne, iI_ixN, zI_mk, zL_mk, zP_mk, zK_mk, zN_mk, zwI_up, zwL_up, zg_some, Nat.reduceMod, Nat.reduceDiv, zcn_I, iI_add, iI_sub, iI_mul, iI_neg, iI_lt, iI_le, iI_eq, iI_lt0, iI_le0, iI_gt0, iI_ge0, iI_eq0, k0, p18, k18] <;> omega) ⟨_, rfl, k0⟩ rfl rfl (by decide +kernel) (by decide +kernel) ?_
    simp (disch := omega) only [upI_same, upL_same, upI_ne, upL_ne, iI_ixN, zI_mk, zL_mk, zP_mk, zK_mk, zN_mk, zwI_up, zwL_up, zg_some, Nat.reduceMod, Nat.reduceDiv, zcn_I, iI_add, iI_sub, iI_mul, iI_neg, iI_lt, iI_le, iI_eq, iI_lt0, iI_le0, iI_gt0, iI_ge0, iI_eq0, p18, v1]
    refine turned_ok (a := nth l k) (by omega) f1 hi (by rw [tSaf_z]; show nth l k < 2 * pzR (tPz T i); omega) rfl rfl (fun I2 g1 g2 g3 g4 => ?_)
    rw [tSaf_s, ← take_snoc (by omega)] at g1
    refine zW.go [45] rfl (by omega) trivial ?_
    exact app_lp hd hi ht hn hQ n (k + 1) (by omega) I2 _ g1 (mfo_tr f2 g2) (g3.trans f3) ⟨by rw [g3]; exact f41, by rw [g4 _ (by omega) (by omega)]; exact f4.2⟩ (by rw [zcn_I, iI_add]; rfl)
theorem mApply_ok {p : Int} {a : Int32} (hd : 80 ≤ d) (h : mf y T (I, L, R)) (e1 : a = iI p) (h1 : i32 p) (hQ : mP y (I, L, R) (oApply T p) eI Q) : zS 222 d [zr (some y), zi a] (I, L, R) Q := by
  subst e1
  have hM := h.2.1
  have k0 : R.2.1 y = some (7, 0) := hM.1
  refine zW.gz [] rfl rfl rfl (by omega) trivial ⟨_, rfl, k0⟩ rfl rfl (by decide +kernel) (by decide +kernel) ?_
  refine noPz_ok (by omega) h rfl h1 (fun q hq => ?_)
  refine zW.gz [] rfl rfl rfl (by omega) trivial ⟨_, rfl, k0⟩ rfl rfl (by decide +kernel) (by decide +kernel) ?_
  refine mThr_ok (k := 1) (by omega) k0 hq (zcn_I _) (fun hb => ?_) (fun hg => ?_)
  · refine zW.gbt [] rfl rfl rfl (by omega) trivial (by simp (disch := omega) only [eq_self, not_true_eq_false, not_false_eq_true, upI_same, upL_same, upI_ne, upL_ne, iI_ixN, zI_mk, zL_mk, zP_mk, zK_mk, zN_mk, zwI_up, zwL_up, zg_some, Nat.reduceMod, Nat.reduceDiv, zcn_I, iI_add, iI_sub, iI_mul, iI_neg, iI_lt, iI_le, iI_eq, iI_lt0, iI_le0, iI_gt0, iI_ge0, iI_eq0] <;> omega) ?_
    refine zW.gr [] rfl rfl rfl (by omega) trivial z01c0 ?_; rw [zcn_I]
    refine mP_t hQ (c := 0) (v := 0) ?_ (mf_scr h th_scr) (mgr_o (scr_o th_scr)) (upI_same _ _ _ _) 0
    exact onP_no hb
  · obtain ⟨i, rfl, hi, -⟩ := onP_yes (f := fun i => (0, 0, T)) hg
    unfold oApply at hQ
    rw [onP_i hi] at hQ
    refine zW.gbf [] rfl rfl rfl (by omega) trivial (by simp (disch := omega) only [eq_self, not_true_eq_false, not_false_eq_true, upI_same, upL_same, upI_ne, upL_ne, iI_ixN, zI_mk, zL_mk, zP_mk, zK_mk, zN_mk, zwI_up, zwL_up, zg_some, Nat.reduceMod, Nat.reduceDiv, zcn_I, iI_add, iI_sub, iI_mul, iI_neg, iI_lt, iI_le, iI_eq, iI_lt0, iI_le0, iI_gt0, iI_ge0, iI_eq0] <;> omega) ?_
    have hm := mf_scr h (th_scr (v := iI 0) (L := L))
    have G : ∀ (q : Int32) (o : Option (List Nat)) (I' : Nat → Nat → Int32), spell (tSg T) = o → tru (∀ l, o = some l → ¬ ∀ t, t ∈ l → t / 2 < pzR (tPz T i)) q → pfr y (upI I y 41 (iI 0)) I' → (∀ l, o = some l → spR y I' l) → zW 222 d 0 0 34 [some (zr (some y)), some (zi (iI (i : Int))), none] [zi q, zr (some y)] (I', L, R) Q := fun q o I' ho hq f s => by
      have s2 : ∀ w, scr y I L (upI I' y 41 w) L := fun w => scr_tr (scr_tr th_scr (pfr_scr f)) th_scr
      rw [ho] at hQ
      refine zW.gz [] rfl rfl rfl (by omega) trivial ⟨_, rfl, k0⟩ rfl rfl (by decide +kernel) (by decide +kernel) ?_
      refine mThr_ok (k := 2) (by omega) k0 hq (zcn_I _) (fun hb => ?_) (fun hb => ?_)
      · refine zW.gbf [] rfl rfl rfl (by omega) trivial (by simp (disch := omega) only [eq_self, not_true_eq_false, not_false_eq_true, upI_same, upL_same, upI_ne, upL_ne, iI_ixN, zI_mk, zL_mk, zP_mk, zK_mk, zN_mk, zwI_up, zwL_up, zg_some, Nat.reduceMod, Nat.reduceDiv, zcn_I, iI_add, iI_sub, iI_mul, iI_neg, iI_lt, iI_le, iI_eq, iI_lt0, iI_le0, iI_gt0, iI_ge0, iI_eq0] <;> omega) ?_
        refine zW.gr [] rfl rfl rfl (by omega) trivial z01c0 ?_; rw [zcn_I]
        refine mP_t hQ (c := 1) (v := 0) ?_ (mf_scr h (s2 _)) (mgr_o (scr_o (s2 _))) (upI_same _ _ _ _) 0
        cases o with
        | none => rfl
        | some l => exact if_neg (fun q => hb l rfl (dc_t.mp q))
      · refine zW.gbt [] rfl rfl rfl (by omega) trivial (by simp (disch := omega) only [eq_self, not_true_eq_false, not_false_eq_true, upI_same, upL_same, upI_ne, upL_ne, iI_ixN, zI_mk, zL_mk, zP_mk, zK_mk, zN_mk, zwI_up, zwL_up, zg_some, Nat.reduceMod, Nat.reduceDiv, zcn_I, iI_add, iI_sub, iI_mul, iI_neg, iI_lt, iI_le, iI_eq, iI_lt0, iI_le0, iI_gt0, iI_ge0, iI_eq0] <;> omega) ?_
        cases o with
        | none => exact absurd (fun l q => by cases q) hb
        | some l =>
          obtain ⟨n1, n2⟩ := spell_ok ho
          have sl := s l rfl
          have ht : ∀ t, t ∈ l → t / 2 < pzR (tPz T i) := Classical.byContradiction fun c => hb (fun l' e => by cases e; exact c)
          dsimp only at hQ
          rw [if_pos (dc_t.mpr ht)] at hQ
          refine zW.go [45] rfl (by omega) trivial ?_
          refine app_lp (I0 := upI I' y 41 (iI 0)) (by omega) hi ht n1 (fun I2 x g1 g2 g3 => ?_) l.length 0 (by omega) _ _ (by rw [List.take_zero, tSaf_0]; exact mf_scr h (s2 _)) mfo_rf rfl ⟨by rw [upI_ne (by omega)]; exact sl.1, by rw [upI_row (by omega)]; exact sl.2⟩ (zcn_I _)
          obtain ⟨h4, hz, w1, w2, w3, w4, w5⟩ := m_pz g1 hi
          rw [tSaf_z] at hz w5
          have hst : pm (pzN (tPz T i)) (saf (pzT (tPz T i)) (pzS (tPz T i)) l) := hz.2.2.2.2.2.2.2.2
          have p5 : R.1 y 5 = some (y + 46) := (hM.2.1 5 (by decide)).1; have k5 : R.2.1 (y + 46) = some (25, 4) := (hM.2.1 5 (by decide)).2; have q5 : R.1 (y + 46) (i) = some (y + 47 + i) := (hM.2.2.2.2.1 (i) (by omega)).1.trans (congrArg some (by omega)); have j5 : R.2.1 (y + 47 + i) = some (20, 10) := (congrArg R.2.1 (by omega)).trans (hM.2.2.2.2.1 (i) (by omega)).2
          refine zW.gz [] rfl rfl rfl (by omega) (by simp (disch := omega) only [true_or, or_true, eq_self, Option.some.injEq, Prod.mk.injEq, zall_0, zall_1, zall_2, zob_iff, zar_iff, zis_iff, zkIs_some, zkHas_some, iI_vp, z01_I, z01_bz, zch_I, true_and, and_true, or_false, false_or, and_self, upI_same, upL_same, upI_ne, upL_ne, iI_ixN, zI_mk, zL_mk, zP_mk, zK_mk, zN_mk, zwI_up, zwL_up, zg_some, Nat.reduceMod, Nat.reduceDiv, zcn_I, iI_add, iI_sub, iI_mul, iI_neg, iI_lt, iI_le, iI_eq, iI_lt0, iI_le0, iI_gt0, iI_ge0, iI_eq0, k0, p5, k5] <;> omega) ⟨_, rfl, k0⟩ rfl rfl (by decide +kernel) (by decide +kernel) ?_
          simp (disch := omega) only [upI_same, upL_same, upI_ne, upL_ne, iI_ixN, zI_mk, zL_mk, zP_mk, zK_mk, zN_mk, zwI_up, zwL_up, zg_some, Nat.reduceMod, Nat.reduceDiv, p5, q5]
          have eT : tPz (tSaf T i l) i = pzSt (tPz T i) (saf (pzT (tPz T i)) (pzS (tPz T i)) l) := tSaf_z T i l
          refine solvB_ok (f := saf (pzT (tPz T i)) (pzS (tPz T i)) l) (by omega) g1 hi rfl j5 w5 (by rw [eT]; exact hst) (fun q hq => ?_)
          rw [eT] at hq
          refine zW.gr [] rfl rfl rfl (by omega) trivial (tru_01 hq) ?_
          have t41 : I2 y 41 = iI 0 := by
            rw [g3]
            exact upI_same _ _ _ _
          rcases hq with ⟨g, rfl⟩ | ⟨g, rfl⟩
          · rw [b01_t (show solv (tPz T i) (saf (pzT (tPz T i)) (pzS (tPz T i)) l) from g)] at hQ
            exact mP_0 hQ rfl g1 (mgr_o (mfo_tr (scr_o (s2 _)) g2)) t41
          · rw [b01_f (show ¬ solv (tPz T i) (saf (pzT (tPz T i)) (pzS (tPz T i)) l) from g)] at hQ
            exact mP_0 hQ rfl g1 (mgr_o (mfo_tr (scr_o (s2 _)) g2)) t41
    refine zW.gz [] rfl rfl rfl (by omega) trivial ⟨_, rfl, k0⟩ rfl rfl (by decide +kernel) (by decide +kernel) ?_
    refine mSpel_ok (by omega) hm (fun l hl I' f s => ?_) (fun hl I' f => ?_)
    · obtain ⟨n1, n2⟩ := spell_ok hl
      refine zW.gbf [] rfl rfl rfl (by omega) trivial (by simp (disch := omega) only [eq_self, not_true_eq_false, not_false_eq_true, upI_same, upL_same, upI_ne, upL_ne, iI_ixN, zI_mk, zL_mk, zP_mk, zK_mk, zN_mk, zwI_up, zwL_up, zg_some, Nat.reduceMod, Nat.reduceDiv, zcn_I, iI_add, iI_sub, iI_mul, iI_neg, iI_lt, iI_le, iI_eq, iI_lt0, iI_le0, iI_gt0, iI_ge0, iI_eq0] <;> omega) ?_
      refine zW.gz [] rfl rfl rfl (by omega) trivial ⟨_, rfl, k0⟩ rfl rfl (by decide +kernel) (by decide +kernel) ?_
      refine hasR_ok (by omega) (mf_scr h (scr_tr th_scr (pfr_scr f))) hi rfl s n1 n2 (fun q hq => ?_)
      rcases hq with ⟨g, rfl⟩ | ⟨g, rfl⟩
      · refine zW.gbt [] rfl rfl rfl (by omega) trivial (by simp (disch := omega) only [eq_self, not_true_eq_false, not_false_eq_true, upI_same, upL_same, upI_ne, upL_ne, iI_ixN, zI_mk, zL_mk, zP_mk, zK_mk, zN_mk, zwI_up, zwL_up, zg_some, Nat.reduceMod, Nat.reduceDiv, zcn_I, iI_add, iI_sub, iI_mul, iI_neg, iI_lt, iI_le, iI_eq, iI_lt0, iI_le0, iI_gt0, iI_ge0, iI_eq0] <;> omega) ?_
        exact zW.go [34] rfl (by omega) trivial (G _ _ I' hl (tru_f (fun q => q l rfl g)) f (fun l' e => by cases e; exact s))
      · refine zW.gbf [] rfl rfl rfl (by omega) trivial (by simp (disch := omega) only [eq_self, not_true_eq_false, not_false_eq_true, upI_same, upL_same, upI_ne, upL_ne, iI_ixN, zI_mk, zL_mk, zP_mk, zK_mk, zN_mk, zwI_up, zwL_up, zg_some, Nat.reduceMod, Nat.reduceDiv, zcn_I, iI_add, iI_sub, iI_mul, iI_neg, iI_lt, iI_le, iI_eq, iI_lt0, iI_le0, iI_gt0, iI_ge0, iI_eq0] <;> omega) ?_
        exact zW.go [34] rfl (by omega) trivial (G _ _ I' hl (tru_t (fun l' e => by cases e; exact g)) f (fun l' e => by cases e; exact s))
    · refine zW.gbt [] rfl rfl rfl (by omega) trivial (by simp (disch := omega) only [eq_self, not_true_eq_false, not_false_eq_true, upI_same, upL_same, upI_ne, upL_ne, iI_ixN, zI_mk, zL_mk, zP_mk, zK_mk, zN_mk, zwI_up, zwL_up, zg_some, Nat.reduceMod, Nat.reduceDiv, zcn_I, iI_add, iI_sub, iI_mul, iI_neg, iI_lt, iI_le, iI_eq, iI_lt0, iI_le0, iI_gt0, iI_ge0, iI_eq0] <;> omega) ?_
      exact zW.go [34] rfl (by omega) trivial (G _ _ I' hl (tru_t (fun l' e => by cases e)) f (fun l' e => by cases e))
end MAPP
