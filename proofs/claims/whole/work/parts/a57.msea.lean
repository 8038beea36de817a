/-! The model searches. -/
section MSEA
variable {d y : Nat} {T : tfT} {I : Nat → Nat → Int32} {L : Nat → Nat → Int64} {R : zRt} {Q : zO → zM → Prop}
def sdR (y : Nat) (o : Option (Nat × List Nat)) (I' : Nat → Nat → Int32) (q : Int32) : Prop := (∃ n v, o = some (n, v) ∧ n ≤ 6 ∧ (∀ x, x ∈ v → x < 8) ∧ v.length = n ∧ q = iI (n : Int) ∧ ∀ j, j < n → I' (y + 1781) j = iI (nth v j : Int)) ∨ (o = none ∧ q = iI (-1))
theorem sd_lp {i m : Nat} {I0 : Nat → Nat → Int32} (hd : 12 ≤ d) (hi : i < tPn T) (hm : m ≤ 6)
    (hQ : ∀ I' q, mf y T (I', L, R) → mfo y I0 L I' L → I' y = I0 y → sdR y (pzK (tPz T i) m) I' q → Q (.inl (some (zi q))) (I', L, R)) :
    ∀ k n, n + k = m + 1 → pzK (tPz T i) m = skF (fun n => srch (pzT (tPz T i)) (pzC (tPz T i)) (2 * pzR (tPz T i)) n (fun p => pzC (tPz T i) (pzS (tPz T i) p))) k n → ∀ (I1 : Nat → Nat → Int32) (x : Int32), mf y T (I1, L, R) → mfo y I0 L I1 L → I1 y = I0 y → x = iI (n : Int) → zW 204 d 0 0 2 [some (zr (some y)), some (zi (iI (i : Int))), some (zi (iI (m : Int))), some (zi x)] [] (I1, L, R) Q
  | 0, n, hn, hk, I1, x, m1, f1, t1, e => by
    subst e
    obtain rfl : n = m + 1 := by omega
    refine zW.gbt [] rfl rfl rfl (by omega) trivial (by simp (disch := omega) only [eq_self, not_true_eq_false, not_false_eq_true, upI_same, upL_same, upI_ne, upL_ne, iI_ixN, zI_mk, zL_mk, zP_mk, zK_mk, zN_mk, zwI_up, zwL_up, zg_some, Nat.reduceMod, Nat.reduceDiv, zcn_I, iI_add, iI_sub, iI_mul, iI_neg, iI_lt, iI_le, iI_eq, iI_lt0, iI_le0, iI_gt0, iI_ge0, iI_eq0] <;> omega) ?_
    refine zW.gr [] rfl rfl rfl (by omega) trivial trivial ?_
    exact hQ I1 _ m1 f1 t1 (Or.inr ⟨hk, zcn_I _⟩)
  | k + 1, n, hn, hk, I1, x, m1, f1, t1, e => by
    subst e
    have hM := m1.2.1
    have k0 : R.2.1 y = some (7, 0) := hM.1
    have hz := (m_pz m1 hi).2.1
    have hr4 := hz.2.2.1
    refine zW.gbf [] rfl rfl rfl (by omega) trivial (by simp (disch := omega) only [eq_self, not_true_eq_false, not_false_eq_true, upI_same, upL_same, upI_ne, upL_ne, iI_ixN, zI_mk, zL_mk, zP_mk, zK_mk, zN_mk, zwI_up, zwL_up, zg_some, Nat.reduceMod, Nat.reduceDiv, zcn_I, iI_add, iI_sub, iI_mul, iI_neg, iI_lt, iI_le, iI_eq, iI_lt0, iI_le0, iI_gt0, iI_ge0, iI_eq0] <;> omega) ?_
    refine zW.gz [] rfl rfl rfl (by omega) trivial ⟨_, rfl, k0⟩ rfl rfl (by decide +kernel) (by decide +kernel) ?_
    refine mcs_ok n (at_ := 0) (by omega) m1 hi (by omega) rfl (zcn_I _) rfl (fun I2 q m2 f2 t2 _ hq => ?_)
    rcases hq with ⟨v, hv, rfl, hj⟩ | ⟨hv, rfl⟩
    · refine zW.gbf [] rfl rfl rfl (by omega) trivial (by simp (disch := omega) only [eq_self, not_true_eq_false, not_false_eq_true, upI_same, upL_same, upI_ne, upL_ne, iI_ixN, zI_mk, zL_mk, zP_mk, zK_mk, zN_mk, zwI_up, zwL_up, zg_some, Nat.reduceMod, Nat.reduceDiv, zcn_I, iI_add, iI_sub, iI_mul, iI_neg, iI_lt, iI_le, iI_eq, iI_lt0, iI_le0, iI_gt0, iI_ge0, iI_eq0] <;> omega) ?_
      refine zW.gr [] rfl rfl rfl (by omega) trivial trivial ?_
      obtain ⟨v1, v2, -⟩ := srch_some hv
      refine hQ I2 _ m2 (mfo_tr f1 f2) (t2.trans t1) (Or.inl ⟨n, v, ?_, by omega, fun x hx => by have := v2 x hx; omega, v1, rfl, fun j hj' => ?_⟩)
      · rw [hk]
        show (match srch (pzT (tPz T i)) (pzC (tPz T i)) (2 * pzR (tPz T i)) n (fun p => pzC (tPz T i) (pzS (tPz T i) p)) with | some w => some (n, w) | none => _) = _
        rw [hv]
      · have := hj j hj'
        rw [Nat.zero_add] at this
        exact this
    · refine zW.gbt [] rfl rfl rfl (by omega) trivial (by simp (disch := omega) only [eq_self, not_true_eq_false, not_false_eq_true, upI_same, upL_same, upI_ne, upL_ne, iI_ixN, zI_mk, zL_mk, zP_mk, zK_mk, zN_mk, zwI_up, zwL_up, zg_some, Nat.reduceMod, Nat.reduceDiv, zcn_I, iI_add, iI_sub, iI_mul, iI_neg, iI_lt, iI_le, iI_eq, iI_lt0, iI_le0, iI_gt0, iI_ge0, iI_eq0] <;> omega) ?_
      refine zW.go [2] rfl (by omega) trivial ?_
      refine sd_lp hd hi hm hQ k (n + 1) (by omega) ?_ I2 _ m2 (mfo_tr f1 f2) (t2.trans t1) (by rw [zcn_I, iI_add]; rfl)
      rw [hk]
      show (match srch (pzT (tPz T i)) (pzC (tPz T i)) (2 * pzR (tPz T i)) n (fun p => pzC (tPz T i) (pzS (tPz T i) p)) with | some w => some (n, w) | none => _) = _
      rw [hv]
theorem msd_ok {i m : Nat} {a b : Int32} (hd : 12 ≤ d) (h : mf y T (I, L, R)) (hi : i < tPn T) (hm : m ≤ 6) (e1 : a = iI (i : Int)) (e2 : b = iI (m : Int))
    (hQ : ∀ I' q, mf y T (I', L, R) → mfo y I L I' L → I' y = I y → sdR y (pzK (tPz T i) m) I' q → Q (.inl (some (zi q))) (I', L, R)) : zS 204 d [zr (some y), zi a, zi b] (I, L, R) Q := by
  subst e1; subst e2
  refine zW.go [2] rfl (by omega) trivial ?_
  exact sd_lp hd hi hm hQ (m + 1) 0 (Nat.zero_add _) rfl I _ h mfo_rf rfl (zcn_I _)
theorem mSearch_ok {p m : Int} {a b : Int32} (hd : 14 ≤ d) (h : mf y T (I, L, R)) (e1 : a = iI p) (e2 : b = iI m) (h1 : i32 p) (h2 : i32 m) (hQ : mP y (I, L, R) (oSearch T p m) eI Q) : zS 205 d [zr (some y), zi a, zi b] (I, L, R) Q := by
  subst e1; subst e2
  have hM := h.2.1
  have k0 : R.2.1 y = some (7, 0) := hM.1
  refine zW.gz [] rfl rfl rfl (by omega) trivial ⟨_, rfl, k0⟩ rfl rfl (by decide +kernel) (by decide +kernel) ?_
  refine noPz_ok (by omega) h rfl h1 (fun q hq => ?_)
  refine zW.gz [] rfl rfl rfl (by omega) trivial ⟨_, rfl, k0⟩ rfl rfl (by decide +kernel) (by decide +kernel) ?_
  refine mThr_ok (k := 1) (by omega) k0 hq (zcn_I _) (fun hb => ?_) (fun hg => ?_)
  · refine zW.gbt [] rfl rfl rfl (by omega) trivial (by simp (disch := omega) only [eq_self, not_true_eq_false, not_false_eq_true, upI_same, upL_same, upI_ne, upL_ne, iI_ixN, zI_mk, zL_mk, zP_mk, zK_mk, zN_mk, zwI_up, zwL_up, zg_some, Nat.reduceMod, Nat.reduceDiv, zcn_I, iI_add, iI_sub, iI_mul, iI_neg, iI_lt, iI_le, iI_eq, iI_lt0, iI_le0, iI_gt0, iI_ge0, iI_eq0] <;> omega) ?_
    refine zW.go [46] rfl (by omega) trivial ?_
    refine zW.gr [] rfl rfl rfl (by omega) trivial trivial ?_; rw [zcn_I]
    refine mP_t hQ (c := 0) (v := 0) ?_ (mf_scr h th_scr) (mgr_o (scr_o th_scr)) (upI_same _ _ _ _) 0
    exact onP_no hb
  · obtain ⟨i, rfl, hi, e⟩ := onP_yes hg
    unfold oSearch at hQ
    rw [e] at hQ
    refine zW.gbf [] rfl rfl rfl (by omega) trivial (by simp (disch := omega) only [eq_self, not_true_eq_false, not_false_eq_true, upI_same, upL_same, upI_ne, upL_ne, iI_ixN, zI_mk, zL_mk, zP_mk, zK_mk, zN_mk, zwI_up, zwL_up, zg_some, Nat.reduceMod, Nat.reduceDiv, zcn_I, iI_add, iI_sub, iI_mul, iI_neg, iI_lt, iI_le, iI_eq, iI_lt0, iI_le0, iI_gt0, iI_ge0, iI_eq0] <;> omega) ?_
    refine zW.gz [] rfl rfl rfl (by omega) trivial trivial rfl rfl (by decide +kernel) (by decide +kernel) ?_
    refine mIn_ok (by omega) rfl (zcn_I _) (zcn_I _) h2 ⟨by omega, by omega⟩ ⟨by omega, by omega⟩ (fun q hq => ?_)
    have F : ∀ u, tru (¬ (0 ≤ m ∧ m ≤ 6)) u → zW 205 d 0 0 29 [some (zr (some y)), some (zi (iI (i : Int))), some (zi (iI m))] [zi u, zr (some y)] (upI I y 41 (iI 0), L, R) Q := fun u hu => by
      refine zW.gz [] rfl rfl rfl (by omega) trivial ⟨_, rfl, k0⟩ rfl rfl (by decide +kernel) (by decide +kernel) ?_
      refine mThr_ok (k := 2) (by omega) k0 hu (zcn_I _) (fun hb => ?_) (fun hb => ?_)
      · refine zW.gbf [] rfl rfl rfl (by omega) trivial (by simp (disch := omega) only [eq_self, not_true_eq_false, not_false_eq_true, upI_same, upL_same, upI_ne, upL_ne, iI_ixN, zI_mk, zL_mk, zP_mk, zK_mk, zN_mk, zwI_up, zwL_up, zg_some, Nat.reduceMod, Nat.reduceDiv, zcn_I, iI_add, iI_sub, iI_mul, iI_neg, iI_lt, iI_le, iI_eq, iI_lt0, iI_le0, iI_gt0, iI_ge0, iI_eq0] <;> omega) ?_
        refine zW.go [46] rfl (by omega) trivial ?_
        refine zW.gr [] rfl rfl rfl (by omega) trivial trivial ?_; rw [zcn_I]
        exact mP_t hQ (c := 1) (v := 0) (if_pos hb) (mf_scr h th2_scr) (mgr_o (scr_o th2_scr)) (upI_same _ _ _ _) 0
      · rw [if_neg hb] at hQ
        obtain ⟨k, rfl⟩ : ∃ k : Nat, m = k := ⟨m.toNat, by omega⟩
        rw [show ((k : Int)).toNat = k from rfl] at hQ
        have hm2 : mf y T (upI (upI I y 41 (iI 0)) y 41 (iI 0), L, R) := mf_scr h th2_scr
        refine zW.gbt [] rfl rfl rfl (by omega) trivial (by simp (disch := omega) only [eq_self, not_true_eq_false, not_false_eq_true, upI_same, upL_same, upI_ne, upL_ne, iI_ixN, zI_mk, zL_mk, zP_mk, zK_mk, zN_mk, zwI_up, zwL_up, zg_some, Nat.reduceMod, Nat.reduceDiv, zcn_I, iI_add, iI_sub, iI_mul, iI_neg, iI_lt, iI_le, iI_eq, iI_lt0, iI_le0, iI_gt0, iI_ge0, iI_eq0] <;> omega) ?_
        refine zW.gz [] rfl rfl rfl (by omega) trivial ⟨_, rfl, k0⟩ rfl rfl (by decide +kernel) (by decide +kernel) ?_
        refine msd_ok (by omega) hm2 hi (by omega) rfl rfl (fun I' q m1 f1 t1 hq => ?_)
        refine zW.gr [] rfl rfl rfl (by omega) trivial trivial ?_
        have t41 : I' y 41 = iI 0 := by rw [t1]; exact upI_same _ _ _ _
        rcases hq with ⟨n, v, ho, -, -, -, rfl, -⟩ | ⟨ho, rfl⟩
        · rw [ho] at hQ
          exact mP_0 hQ rfl m1 (mgr_o (mfo_tr (scr_o th2_scr) f1)) t41
        · rw [ho] at hQ
          exact mP_0 hQ rfl m1 (mgr_o (mfo_tr (scr_o th2_scr) f1)) t41
    rcases hq with ⟨g, rfl⟩ | ⟨g, rfl⟩
    · refine zW.gbt [] rfl rfl rfl (by omega) trivial (by simp (disch := omega) only [eq_self, not_true_eq_false, not_false_eq_true, upI_same, upL_same, upI_ne, upL_ne, iI_ixN, zI_mk, zL_mk, zP_mk, zK_mk, zN_mk, zwI_up, zwL_up, zg_some, Nat.reduceMod, Nat.reduceDiv, zcn_I, iI_add, iI_sub, iI_mul, iI_neg, iI_lt, iI_le, iI_eq, iI_lt0, iI_le0, iI_gt0, iI_ge0, iI_eq0] <;> omega) ?_
      exact zW.go [29] rfl (by omega) trivial (F _ (tru_f (fun n => n g)))
    · refine zW.gbf [] rfl rfl rfl (by omega) trivial (by simp (disch := omega) only [eq_self, not_true_eq_false, not_false_eq_true, upI_same, upL_same, upI_ne, upL_ne, iI_ixN, zI_mk, zL_mk, zP_mk, zK_mk, zN_mk, zwI_up, zwL_up, zg_some, Nat.reduceMod, Nat.reduceDiv, zcn_I, iI_add, iI_sub, iI_mul, iI_neg, iI_lt, iI_le, iI_eq, iI_lt0, iI_le0, iI_gt0, iI_ge0, iI_eq0] <;> omega) ?_
      exact zW.go [29] rfl (by omega) trivial (F _ (tru_t g))
theorem mSeaAt_ok {p m v : Int} {a b e : Int32} (hd : 14 ≤ d) (h : mf y T (I, L, R)) (e1 : a = iI p) (e2 : b = iI m) (e3 : e = iI v) (h1 : i32 p) (h2 : i32 m) (h3 : i32 v) (hQ : mP y (I, L, R) (oSeaAt T p m v) eI Q) : zS 206 d [zr (some y), zi a, zi b, zi e] (I, L, R) Q := by
  subst e1; subst e2; subst e3
  have hM := h.2.1
  have k0 : R.2.1 y = some (7, 0) := hM.1
  refine zW.gz [] rfl rfl rfl (by omega) trivial ⟨_, rfl, k0⟩ rfl rfl (by decide +kernel) (by decide +kernel) ?_
  refine noPz_ok (by omega) h rfl h1 (fun q hq => ?_)
  refine zW.gz [] rfl rfl rfl (by omega) trivial ⟨_, rfl, k0⟩ rfl rfl (by decide +kernel) (by decide +kernel) ?_
  refine mThr_ok (k := 1) (by omega) k0 hq (zcn_I _) (fun hb => ?_) (fun hg => ?_)
  · refine zW.gbt [] rfl rfl rfl (by omega) trivial (by simp (disch := omega) only [eq_self, not_true_eq_false, not_false_eq_true, upI_same, upL_same, upI_ne, upL_ne, iI_ixN, zI_mk, zL_mk, zP_mk, zK_mk, zN_mk, zwI_up, zwL_up, zg_some, Nat.reduceMod, Nat.reduceDiv, zcn_I, iI_add, iI_sub, iI_mul, iI_neg, iI_lt, iI_le, iI_eq, iI_lt0, iI_le0, iI_gt0, iI_ge0, iI_eq0] <;> omega) ?_
    refine zW.gr [] rfl rfl rfl (by omega) trivial trivial ?_; rw [zcn_I]
    refine mP_t hQ (c := 0) (v := 0) ?_ (mf_scr h th_scr) (mgr_o (scr_o th_scr)) (upI_same _ _ _ _) 0
    exact onP_no hb
  · obtain ⟨i, rfl, hi, e⟩ := onP_yes hg
    unfold oSeaAt at hQ
    rw [e] at hQ
    refine zW.gbf [] rfl rfl rfl (by omega) trivial (by simp (disch := omega) only [eq_self, not_true_eq_false, not_false_eq_true, upI_same, upL_same, upI_ne, upL_ne, iI_ixN, zI_mk, zL_mk, zP_mk, zK_mk, zN_mk, zwI_up, zwL_up, zg_some, Nat.reduceMod, Nat.reduceDiv, zcn_I, iI_add, iI_sub, iI_mul, iI_neg, iI_lt, iI_le, iI_eq, iI_lt0, iI_le0, iI_gt0, iI_ge0, iI_eq0] <;> omega) ?_
    refine zW.gz [] rfl rfl rfl (by omega) trivial trivial rfl rfl (by decide +kernel) (by decide +kernel) ?_
    refine mIn_ok (by omega) rfl (zcn_I _) (zcn_I _) h2 ⟨by omega, by omega⟩ ⟨by omega, by omega⟩ (fun q hq => ?_)
    have F : ∀ u, tru (¬ (0 ≤ m ∧ m ≤ 6)) u → zW 206 d 0 0 29 [some (zr (some y)), some (zi (iI (i : Int))), some (zi (iI m)), some (zi (iI v))] [zi u, zr (some y)] (upI I y 41 (iI 0), L, R) Q := fun u hu => by
      refine zW.gz [] rfl rfl rfl (by omega) trivial ⟨_, rfl, k0⟩ rfl rfl (by decide +kernel) (by decide +kernel) ?_
      refine mThr_ok (k := 2) (by omega) k0 hu (zcn_I _) (fun hb => ?_) (fun hb => ?_)
      · refine zW.gbf [] rfl rfl rfl (by omega) trivial (by simp (disch := omega) only [eq_self, not_true_eq_false, not_false_eq_true, upI_same, upL_same, upI_ne, upL_ne, iI_ixN, zI_mk, zL_mk, zP_mk, zK_mk, zN_mk, zwI_up, zwL_up, zg_some, Nat.reduceMod, Nat.reduceDiv, zcn_I, iI_add, iI_sub, iI_mul, iI_neg, iI_lt, iI_le, iI_eq, iI_lt0, iI_le0, iI_gt0, iI_ge0, iI_eq0] <;> omega) ?_
        refine zW.gr [] rfl rfl rfl (by omega) trivial trivial ?_; rw [zcn_I]
        exact mP_t hQ (c := 1) (v := 0) (if_pos hb) (mf_scr h th2_scr) (mgr_o (scr_o th2_scr)) (upI_same _ _ _ _) 0
      · rw [if_neg hb] at hQ
        obtain ⟨k, rfl⟩ : ∃ k : Nat, m = k := ⟨m.toNat, by omega⟩
        rw [show ((k : Int)).toNat = k from rfl] at hQ
        have hm2 : mf y T (upI (upI I y 41 (iI 0)) y 41 (iI 0), L, R) := mf_scr h th2_scr
        refine zW.gbt [] rfl rfl rfl (by omega) trivial (by simp (disch := omega) only [eq_self, not_true_eq_false, not_false_eq_true, upI_same, upL_same, upI_ne, upL_ne, iI_ixN, zI_mk, zL_mk, zP_mk, zK_mk, zN_mk, zwI_up, zwL_up, zg_some, Nat.reduceMod, Nat.reduceDiv, zcn_I, iI_add, iI_sub, iI_mul, iI_neg, iI_lt, iI_le, iI_eq, iI_lt0, iI_le0, iI_gt0, iI_ge0, iI_eq0] <;> omega) ?_
        refine zW.gz [] rfl rfl rfl (by omega) trivial ⟨_, rfl, k0⟩ rfl rfl (by decide +kernel) (by decide +kernel) ?_
        refine msd_ok (by omega) hm2 hi (by omega) rfl rfl (fun I' q m1 f1 t1 hq => ?_)
        -- how many were found, and the place asked for
        have E : ∀ n : Int, q = iI n → -1 ≤ n → n ≤ 6 → (¬ (0 ≤ v ∧ v < n) → (match pzK (tPz T i) k with | some w => if ¬ (0 ≤ v ∧ v < w.1) then ((3 : Nat), (0 : Int), T) else (0, (nth w.2 v.toNat : Nat), T) | none => (3, 0, T)) = (3, 0, T)) → (∀ h : 0 ≤ v ∧ v < n, ∃ z : Nat, z < 8 ∧ (match pzK (tPz T i) k with | some w => if ¬ (0 ≤ v ∧ v < w.1) then ((3 : Nat), (0 : Int), T) else (0, (nth w.2 v.toNat : Nat), T) | none => (3, 0, T)) = (0, (z : Int), T) ∧ I' (y + 1781) v.toNat = iI (z : Int)) → zW 206 d 0 0 47 [some (zr (some y)), some (zi (iI (i : Int))), some (zi (iI (k : Int))), some (zi (iI v))] [zi q, zi (zcn 0), zi (iI v), zr (some y)] (I', L, R) Q := fun n hn n1 n2 hbad hgood => by
          subst hn
          have sc : ∀ w, scr y I' L (upI I' y 41 w) L := fun w => th_scr
          have fr : ∀ w, mfo y I L (upI I' y 41 w) L := fun w => mfo_tr (mfo_tr (scr_o th2_scr) f1) (scr_o (sc w))
          refine zW.gz [] rfl rfl rfl (by omega) trivial trivial rfl rfl (by decide +kernel) (by decide +kernel) ?_
          refine mIn_ok (lo := 0) (hi := n - 1) (by omega) rfl (zcn_I _) (by rw [zcn_I, iI_sub]) h3 ⟨by omega, by omega⟩ ⟨by omega, by omega⟩ (fun q hq => ?_)
          have F2 : ∀ u, tru (¬ (0 ≤ v ∧ v < n)) u → zW 206 d 0 0 60 [some (zr (some y)), some (zi (iI (i : Int))), some (zi (iI (k : Int))), some (zi (iI v))] [zi u, zr (some y)] (I', L, R) Q := fun u hu => by
            refine zW.gz [] rfl rfl rfl (by omega) trivial ⟨_, rfl, k0⟩ rfl rfl (by decide +kernel) (by decide +kernel) ?_
            refine mThr_ok (k := 3) (by omega) k0 hu (zcn_I _) (fun hb3 => ?_) (fun hb3 => ?_)
            · refine zW.gbf [] rfl rfl rfl (by omega) trivial (by simp (disch := omega) only [eq_self, not_true_eq_false, not_false_eq_true, upI_same, upL_same, upI_ne, upL_ne, iI_ixN, zI_mk, zL_mk, zP_mk, zK_mk, zN_mk, zwI_up, zwL_up, zg_some, Nat.reduceMod, Nat.reduceDiv, zcn_I, iI_add, iI_sub, iI_mul, iI_neg, iI_lt, iI_le, iI_eq, iI_lt0, iI_le0, iI_gt0, iI_ge0, iI_eq0] <;> omega) ?_
              refine zW.go [77] rfl (by omega) trivial ?_
              refine zW.gr [] rfl rfl rfl (by omega) trivial trivial ?_; rw [zcn_I]
              exact mP_t hQ (c := 2) (v := 0) (hbad hb3) (mf_scr m1 (sc _)) (mgr_o (fr _)) (upI_same _ _ _ _) 0
            · have hb3 := Classical.byContradiction hb3
              obtain ⟨z, z1, z2, z3⟩ := hgood hb3
              obtain ⟨w, hw⟩ : ∃ w : Nat, v = w := ⟨v.toNat, by omega⟩
              rw [hw, show ((w : Int)).toNat = w from rfl] at z3
              have p16 : R.1 y 16 = some (y + 1781) := (hM.2.1 16 (by decide)).1; have k16 : R.2.1 (y + 1781) = some (20, 6) := (hM.2.1 16 (by decide)).2
              refine zW.gbt [] rfl rfl rfl (by omega) trivial (by simp (disch := omega) only [eq_self, not_true_eq_false, not_false_eq_true, upI_same, upL_same, upI_ne, upL_ne, iI_ixN, zI_mk, zL_mk, zP_mk, zK_mk, zN_mk, zwI_up, zwL_up, zg_some, Nat.reduceMod, Nat.reduceDiv, zcn_I, iI_add, iI_sub, iI_mul, iI_neg, iI_lt, iI_le, iI_eq, iI_lt0, iI_le0, iI_gt0, iI_ge0, iI_eq0] <;> omega) ?_
              rw [hw]
              refine zW.gr [] rfl rfl rfl (by omega) (by simp (disch := omega) only [true_or, or_true, eq_self, Option.some.injEq, Prod.mk.injEq, zall_0, zall_1, zall_2, zob_iff, zar_iff, zis_iff, zkIs_some, zkHas_some, iI_vp, z01_I, z01_bz, zch_I, true_and, and_true, or_false, false_or, and_self, upI_same, upL_same, upI_ne, upL_ne, iI_ixN, zI_mk, zL_mk, zP_mk, zK_mk, zN_mk, zwI_up, zwL_up, zg_some, Nat.reduceMod, Nat.reduceDiv, zcn_I, iI_add, iI_sub, iI_mul, iI_neg, iI_lt, iI_le, iI_eq, iI_lt0, iI_le0, iI_gt0, iI_ge0, iI_eq0, k0, p16, k16] <;> omega) trivial ?_
              simp (disch := omega) only [upI_same, upL_same, upI_ne, upL_ne, iI_ixN, zI_mk, zL_mk, zP_mk, zK_mk, zN_mk, zwI_up, zwL_up, zg_some, Nat.reduceMod, Nat.reduceDiv, p16, z3]
              exact mP_0 hQ z2 (mf_scr m1 (sc _)) (mgr_o (fr _)) (upI_same _ _ _ _)
          rcases hq with ⟨g, rfl⟩ | ⟨g, rfl⟩
          · refine zW.gbt [] rfl rfl rfl (by omega) trivial (by simp (disch := omega) only [eq_self, not_true_eq_false, not_false_eq_true, upI_same, upL_same, upI_ne, upL_ne, iI_ixN, zI_mk, zL_mk, zP_mk, zK_mk, zN_mk, zwI_up, zwL_up, zg_some, Nat.reduceMod, Nat.reduceDiv, zcn_I, iI_add, iI_sub, iI_mul, iI_neg, iI_lt, iI_le, iI_eq, iI_lt0, iI_le0, iI_gt0, iI_ge0, iI_eq0] <;> omega) ?_
            exact zW.go [60] rfl (by omega) trivial (F2 _ (tru_f (fun n => n ⟨by omega, by omega⟩)))
          · refine zW.gbf [] rfl rfl rfl (by omega) trivial (by simp (disch := omega) only [eq_self, not_true_eq_false, not_false_eq_true, upI_same, upL_same, upI_ne, upL_ne, iI_ixN, zI_mk, zL_mk, zP_mk, zK_mk, zN_mk, zwI_up, zwL_up, zg_some, Nat.reduceMod, Nat.reduceDiv, zcn_I, iI_add, iI_sub, iI_mul, iI_neg, iI_lt, iI_le, iI_eq, iI_lt0, iI_le0, iI_gt0, iI_ge0, iI_eq0] <;> omega) ?_
            exact zW.go [60] rfl (by omega) trivial (F2 _ (tru_t (fun n => g ⟨by omega, by omega⟩)))
        rcases hq with ⟨n, w, ho, n6, w8, wl, hq, hj⟩ | ⟨ho, hq⟩
        · refine E n hq (by omega) (by omega) (fun hb => ?_) (fun hg => ⟨nth w v.toNat, w8 _ (nth_mem (by omega)), ?_, hj _ (by omega)⟩)
          · rw [ho]
            exact if_pos hb
          · rw [ho]
            exact if_neg (fun q => q hg)
        · refine E (-1) hq (by omega) (by omega) (fun hb => ?_) (fun hg => absurd hg.2 (by omega))
          rw [ho]
    rcases hq with ⟨g, rfl⟩ | ⟨g, rfl⟩
    · refine zW.gbt [] rfl rfl rfl (by omega) trivial (by simp (disch := omega) only [eq_self, not_true_eq_false, not_false_eq_true, upI_same, upL_same, upI_ne, upL_ne, iI_ixN, zI_mk, zL_mk, zP_mk, zK_mk, zN_mk, zwI_up, zwL_up, zg_some, Nat.reduceMod, Nat.reduceDiv, zcn_I, iI_add, iI_sub, iI_mul, iI_neg, iI_lt, iI_le, iI_eq, iI_lt0, iI_le0, iI_gt0, iI_ge0, iI_eq0] <;> omega) ?_
      exact zW.go [29] rfl (by omega) trivial (F _ (tru_f (fun n => n g)))
    · refine zW.gbf [] rfl rfl rfl (by omega) trivial (by simp (disch := omega) only [eq_self, not_true_eq_false, not_false_eq_true, upI_same, upL_same, upI_ne, upL_ne, iI_ixN, zI_mk, zL_mk, zP_mk, zK_mk, zN_mk, zwI_up, zwL_up, zg_some, Nat.reduceMod, Nat.reduceDiv, zcn_I, iI_add, iI_sub, iI_mul, iI_neg, iI_lt, iI_le, iI_eq, iI_lt0, iI_le0, iI_gt0, iI_ge0, iI_eq0] <;> omega) ?_
      exact zW.go [29] rfl (by omega) trivial (F _ (tru_t g))
end MSEA
