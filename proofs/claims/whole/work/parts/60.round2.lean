/-! A round of the class: cut-offs, telling, averages. -/
def smN (l : Nat → Nat) : Nat → Nat
  | 0 => 0
  | k + 1 => smN l k + l k
def mxN (l : Nat → Nat) : Nat → Nat
  | 0 => 0
  | k + 1 => if mxN l k < l k then l k else mxN l k
def msN (l : Nat → Nat) : Nat → Nat
  | 0 => 0
  | k + 1 => msN l k + (if l k = 0 then 1 else 0)
def avgC (fm : Nat) (l : Nat → Nat) (m : Nat) : Nat := if fm = 53 then smN l m - bst l m - (if msN l m = 0 then mxN l m else 0) else smN l m
/-- the average or mean, 0 for none -/
def avg (fm : Nat) (l : Nat → Nat) (m : Nat) : Nat := if (fm = 53 ∨ fm = 51) ∧ m = mxA fm ∧ msN l m ≤ (if fm = 53 then 1 else 0) then (2 * avgC fm l m + 3) / 6 else 0
theorem mxN_le {l : Nat → Nat} {m : Nat} : ∀ {k : Nat}, (∀ i, i < k → l i ≤ m) → mxN l k ≤ m
  | 0, _ => Nat.zero_le _
  | k + 1, h => by
    have ih := mxN_le (k := k) fun i hi => h i (by omega)
    have := h k (by omega)
    show (if mxN l k < l k then l k else mxN l k) ≤ m
    split <;> omega
theorem smN_le {l : Nat → Nat} {m : Nat} : ∀ {k : Nat}, (∀ i, i < k → l i ≤ m) → smN l k ≤ k * m
  | 0, _ => Nat.zero_le _
  | k + 1, h => by
    have ih := smN_le (k := k) fun i hi => h i (by omega)
    have := h k (by omega)
    show smN l k + l k ≤ (k + 1) * m
    rw [Nat.succ_mul]
    omega
theorem msN_le (l : Nat → Nat) : ∀ k, msN l k ≤ k
  | 0 => Nat.le_refl _
  | k + 1 => by
    have ih := msN_le l k
    show msN l k + (if l k = 0 then 1 else 0) ≤ k + 1
    split <;> omega
theorem avg_a {l : Nat → Nat} : ∀ k, (msN l k < k → 0 < bst l k ∧ bst l k + (k - msN l k - 1) ≤ smN l k) ∧ (msN l k = k → bst l k = 0 ∧ smN l k = 0)
  | 0 => ⟨fun h => absurd h (Nat.lt_irrefl _), fun _ => ⟨rfl, rfl⟩⟩
  | k + 1 => by
    obtain ⟨h1, h2⟩ := avg_a (l := l) k
    have h3 := msN_le l k
    have e1 : msN l (k + 1) = msN l k + (if l k = 0 then 1 else 0) := rfl
    have e2 : smN l (k + 1) = smN l k + l k := rfl
    have e3 : bst l (k + 1) = if 0 < l k ∧ (bst l k = 0 ∨ l k < bst l k) then l k else bst l k := rfl
    rw [e1, e2, e3]
    by_cases c : l k = 0
    · rw [if_pos c, if_neg (by omega)]
      refine ⟨fun h => ?_, fun h => ?_⟩
      · have := h1 (by omega)
        omega
      · have := h2 (by omega)
        omega
    · rw [if_neg c]
      refine ⟨fun h => ?_, fun h => by omega⟩
      by_cases c2 : msN l k < k
      · have := h1 c2
        split <;> omega
      · have := h2 (by omega)
        rw [if_pos (by omega)]
        omega
theorem avg_b {l : Nat → Nat} : ∀ k, 2 ≤ k → msN l k = 0 → bst l k + mxN l k + (k - 2) ≤ smN l k ∧ bst l k ≤ mxN l k
  | 0, h, _ => absurd h (by decide)
  | 1, h, _ => absurd h (by decide)
  | k + 2, _, hm => by
    have e1 : msN l (k + 2) = msN l (k + 1) + (if l (k + 1) = 0 then 1 else 0) := rfl
    have e2 : smN l (k + 2) = smN l (k + 1) + l (k + 1) := rfl
    have e3 : bst l (k + 2) = if 0 < l (k + 1) ∧ (bst l (k + 1) = 0 ∨ l (k + 1) < bst l (k + 1)) then l (k + 1) else bst l (k + 1) := rfl
    have e4 : mxN l (k + 2) = if mxN l (k + 1) < l (k + 1) then l (k + 1) else mxN l (k + 1) := rfl
    rw [e1] at hm
    have hk : l (k + 1) ≠ 0 := fun c => by
      rw [if_pos c] at hm
      omega
    have hm1 : msN l (k + 1) = 0 := by omega
    obtain ⟨a1, -⟩ := avg_a (l := l) (k + 1)
    have a1 := a1 (by omega)
    cases k with
    | zero =>
      have f1 : smN l 1 = l 0 := Nat.zero_add _
      have f2 : bst l 1 = if 0 < l 0 ∧ (0 = 0 ∨ l 0 < 0) then l 0 else 0 := rfl
      have f3 : mxN l 1 = if 0 < l 0 then l 0 else 0 := rfl
      have f4 : l 0 ≠ 0 := fun c => by
        have : msN l 1 = 0 + (if l 0 = 0 then 1 else 0) := rfl
        rw [if_pos c] at this
        have h9 : msN l 1 = 0 := hm1
        omega
      rw [if_pos (by omega)] at f2
      rw [if_pos (by omega)] at f3
      rw [e2, e3, e4]
      have g1 : smN l (0 + 1) = l 0 := f1
      have g2 : bst l (0 + 1) = l 0 := f2
      have g3 : mxN l (0 + 1) = l 0 := f3
      rw [g1, g2, g3]
      split <;> split <;> omega
    | succ k =>
      have ih := avg_b (l := l) (k + 2) (by omega) hm1
      rw [e2, e3, e4]
      have g : k + 1 + 1 = k + 2 := rfl
      rw [g] at *
      split <;> split <;> omega
theorem avg_pos {fm m : Nat} {l : Nat → Nat} (h : (fm = 53 ∨ fm = 51) ∧ m = mxA fm ∧ msN l m ≤ (if fm = 53 then 1 else 0)) : 3 ≤ avgC fm l m := by
  obtain ⟨h1, h2, h3⟩ := h
  obtain ⟨a1, -⟩ := avg_a (l := l) m
  unfold avgC
  rcases h1 with rfl | rfl
  · rw [if_pos rfl] at h3 ⊢
    have hm : m = 5 := h2
    subst hm
    by_cases c : msN l 5 = 0
    · have := avg_b (l := l) 5 (by decide) c
      rw [if_pos c]
      omega
    · have := a1 (by omega)
      rw [if_neg c]
      omega
  · have hm : m = 3 := h2
    subst hm
    rw [if_neg (by decide)] at h3 ⊢
    have := a1 (by omega)
    omega
def aI1 (a : Nat) : Int := if a = 0 then -1 else a
/-- no more attempts -/
def cutN (fm : Nat) : Nat := if fm = 53 then 2 else 1
def isCut (w : zRd) (c : Nat) : Prop := avF (rFm w) ∧ rCu w ≠ 0 ∧ cutN (rFm w) ≤ rMa w c ∧ ∀ i, i < cutN (rFm w) → ¬ (0 < rRs w c i ∧ rRs w c i < rCu w)
def mayM (w : zRd) (c : Nat) : Prop := rMa w c < mxA (rFm w) ∧ ¬ isCut w c
section ROUND2
variable {d b : Nat} {w : zRd} {I : Nat → Nat → Int32} {L : Nat → Nat → Int64} {R : zRt} {Q : zO → zM → Prop}
theorem cv_av {fm x : Nat} (h : avF fm) : cv fm x = x := if_neg (by unfold avF at h; omega)
theorem cut_lp {c : Nat} (hd : 1 ≤ d) (hL : RLy b R) (hk : rOK w) (hR : rPR b I w) (hc : c < 12) (hav : avF (rFm w)) (hma : cutN (rFm w) ≤ rMa w c)
    (t : (∀ i, i < cutN (rFm w) → ¬ (0 < rRs w c i ∧ rRs w c i < rCu w)) → Q (.inl (some (zi (iI 1)))) (I, L, R)) (f : (¬ ∀ i, i < cutN (rFm w) → ¬ (0 < rRs w c i ∧ rRs w c i < rCu w)) → Q (.inl (some (zi (iI 0)))) (I, L, R)) :
    ∀ n k, k + n = cutN (rFm w) → ∀ (y : Int32) (v : Option zV), (∀ i, i < k → ¬ (0 < rRs w c i ∧ rRs w c i < rCu w)) → y = iI (k : Int) → zW 50 d 0 0 43 [some (zr (some b)), some (zi (iI (c : Int))), some (zi (iI (cutN (rFm w) : Int))), some (zi y), v] [] (I, L, R) Q
  | 0, k, hkn, y, v, hno, e => by
    subst e
    have h2 : cutN (rFm w) ≤ 2 := by unfold cutN; split <;> decide
    refine zW.gbt [] rfl rfl rfl hd trivial ?_ (zW.gr [] rfl rfl rfl hd trivial z01c1 ?_)
    · exact (by simp (disch := omega) only [eq_self, not_true_eq_false, not_false_eq_true, upI_same, upL_same, upI_ne, upL_ne, iI_ixN, zI_mk, zL_mk, zP_mk, zK_mk, zN_mk, zwI_up, zwL_up, zg_some, Nat.reduceMod, Nat.reduceDiv, zcn_I, iI_add, iI_sub, iI_mul, iI_neg, iI_lt, iI_le, iI_eq, iI_lt0, iI_le0, iI_gt0, iI_ge0, iI_eq0] <;> omega)
    · rw [zcn_I]
      exact t fun i hi => hno i (by omega)
  | n + 1, k, hkn, y, v, hno, e => by
    subst e
    have h2 : cutN (rFm w) ≤ 2 := by unfold cutN; split <;> decide
    have hL' := hL
    obtain ⟨k0, p3, p4, p5, p6, p7, p8, k1, k14, k15, k16, k17, k18, krow⟩ := hL'
    obtain ⟨q1, q2⟩ := krow c hc
    obtain ⟨m1, -, -, -, -, m6⟩ := hR.2.2.2.2.2.2 c hc
    have hres := (hk.2.2.2.2 c hc).2.1
    have mk6 := m6 k (by omega)
    rw [cv_av hav] at mk6
    have hv := hres k (by omega)
    have r2 := hR.2.2.1
    have hcu := hk.2.2.1
    have nx : ∀ u, ¬ (0 < rRs w c k ∧ rRs w c k < rCu w) → zW 50 d 0 0 74 [some (zr (some b)), some (zi (iI (c : Int))), some (zi (iI (cutN (rFm w) : Int))), some (zi (iI (k : Int))), u] [] (I, L, R) Q := by
      intro u hu
      refine zW.go [43] rfl hd trivial ?_
      refine cut_lp hd hL hk hR hc hav hma t f n (k + 1) (by omega) _ _ (fun i hi => ?_) ?_
      · by_cases e : i = k
        · rw [e]
          exact hu
        · exact hno i (by omega)
      · exact (by simp (disch := omega) only [eq_self, not_true_eq_false, not_false_eq_true, upI_same, upL_same, upI_ne, upL_ne, iI_ixN, zI_mk, zL_mk, zP_mk, zK_mk, zN_mk, zwI_up, zwL_up, zg_some, Nat.reduceMod, Nat.reduceDiv, zcn_I, iI_add, iI_sub, iI_mul, iI_neg, iI_lt, iI_le, iI_eq, iI_lt0, iI_le0, iI_gt0, iI_ge0, iI_eq0] <;> omega)
    refine zW.gbf [] rfl rfl rfl hd trivial ?_ (zW.gb [] rfl rfl rfl hd ?_ (fun h => ?_) (fun h => ?_))
    · exact (by simp (disch := omega) only [eq_self, not_true_eq_false, not_false_eq_true, upI_same, upL_same, upI_ne, upL_ne, iI_ixN, zI_mk, zL_mk, zP_mk, zK_mk, zN_mk, zwI_up, zwL_up, zg_some, Nat.reduceMod, Nat.reduceDiv, zcn_I, iI_add, iI_sub, iI_mul, iI_neg, iI_lt, iI_le, iI_eq, iI_lt0, iI_le0, iI_gt0, iI_ge0, iI_eq0] <;> omega)
    · simp (disch := omega) only [upI_same, upL_same, upI_ne, upL_ne, iI_ixN, zI_mk, zL_mk, zP_mk, zK_mk, zN_mk, zwI_up, zwL_up, zg_some, Nat.reduceMod, Nat.reduceDiv, zcn_I, iI_add, iI_sub, iI_mul, iI_neg, iI_lt, iI_le, iI_eq, iI_lt0, iI_le0, iI_gt0, iI_ge0, iI_eq0, p3, q1]
      exact (by simp (disch := omega) only [true_or, or_true, eq_self, Option.some.injEq, Prod.mk.injEq, zall_0, zall_1, zall_2, zob_iff, zar_iff, zis_iff, zkIs_some, zkHas_some, iI_vp, z01_I, z01_bz, zch_I, true_and, and_true, or_false, false_or, and_self, upI_same, upL_same, upI_ne, upL_ne, iI_ixN, zI_mk, zL_mk, zP_mk, zK_mk, zN_mk, zwI_up, zwL_up, zg_some, Nat.reduceMod, Nat.reduceDiv, zcn_I, iI_add, iI_sub, iI_mul, iI_neg, iI_lt, iI_le, iI_eq, iI_lt0, iI_le0, iI_gt0, iI_ge0, iI_eq0, k0, p3, k1, q1, q2] <;> omega)
    · simp (disch := omega) only [upI_same, upL_same, upI_ne, upL_ne, iI_ixN, zI_mk, zL_mk, zP_mk, zK_mk, zN_mk, zwI_up, zwL_up, zg_some, Nat.reduceMod, Nat.reduceDiv, zcn_I, iI_add, iI_sub, iI_mul, iI_neg, iI_lt, iI_le, iI_eq, iI_lt0, iI_le0, iI_gt0, iI_ge0, iI_eq0, p3, q1, mk6] at h
      simp (disch := omega) only [upI_same, upL_same, upI_ne, upL_ne, iI_ixN, zI_mk, zL_mk, zP_mk, zK_mk, zN_mk, zwI_up, zwL_up, zg_some, Nat.reduceMod, Nat.reduceDiv, zcn_I, iI_add, iI_sub, iI_mul, iI_neg, iI_lt, iI_le, iI_eq, iI_lt0, iI_le0, iI_gt0, iI_ge0, iI_eq0, p3, q1, mk6]
      exact nx _ (by omega)
    · simp (disch := omega) only [upI_same, upL_same, upI_ne, upL_ne, iI_ixN, zI_mk, zL_mk, zP_mk, zK_mk, zN_mk, zwI_up, zwL_up, zg_some, Nat.reduceMod, Nat.reduceDiv, zcn_I, iI_add, iI_sub, iI_mul, iI_neg, iI_lt, iI_le, iI_eq, iI_lt0, iI_le0, iI_gt0, iI_ge0, iI_eq0, p3, q1, mk6] at h
      simp (disch := omega) only [upI_same, upL_same, upI_ne, upL_ne, iI_ixN, zI_mk, zL_mk, zP_mk, zK_mk, zN_mk, zwI_up, zwL_up, zg_some, Nat.reduceMod, Nat.reduceDiv, zcn_I, iI_add, iI_sub, iI_mul, iI_neg, iI_lt, iI_le, iI_eq, iI_lt0, iI_le0, iI_gt0, iI_ge0, iI_eq0, p3, q1, mk6]
      refine zW.gb [] rfl rfl rfl hd ?_ (fun h3 => ?_) (fun h3 => ?_)
      · exact (by simp (disch := omega) only [true_or, or_true, eq_self, Option.some.injEq, Prod.mk.injEq, zall_0, zall_1, zall_2, zob_iff, zar_iff, zis_iff, zkIs_some, zkHas_some, iI_vp, z01_I, z01_bz, zch_I, true_and, and_true, or_false, false_or, and_self, upI_same, upL_same, upI_ne, upL_ne, iI_ixN, zI_mk, zL_mk, zP_mk, zK_mk, zN_mk, zwI_up, zwL_up, zg_some, Nat.reduceMod, Nat.reduceDiv, zcn_I, iI_add, iI_sub, iI_mul, iI_neg, iI_lt, iI_le, iI_eq, iI_lt0, iI_le0, iI_gt0, iI_ge0, iI_eq0, k0] <;> omega)
      · simp (disch := omega) only [upI_same, upL_same, upI_ne, upL_ne, iI_ixN, zI_mk, zL_mk, zP_mk, zK_mk, zN_mk, zwI_up, zwL_up, zg_some, Nat.reduceMod, Nat.reduceDiv, zcn_I, iI_add, iI_sub, iI_mul, iI_neg, iI_lt, iI_le, iI_eq, iI_lt0, iI_le0, iI_gt0, iI_ge0, iI_eq0, r2] at h3
        exact nx _ (by omega)
      · simp (disch := omega) only [upI_same, upL_same, upI_ne, upL_ne, iI_ixN, zI_mk, zL_mk, zP_mk, zK_mk, zN_mk, zwI_up, zwL_up, zg_some, Nat.reduceMod, Nat.reduceDiv, zcn_I, iI_add, iI_sub, iI_mul, iI_neg, iI_lt, iI_le, iI_eq, iI_lt0, iI_le0, iI_gt0, iI_ge0, iI_eq0, r2] at h3
        refine zW.gr [] rfl rfl rfl hd trivial z01c0 ?_
        rw [zcn_I]
        exact f fun q => q k (by omega) (by omega)
theorem isCut_ok {c : Nat} {x : Int32} (hd : 2 ≤ d) (hL : RLy b R) (hk : rOK w) (hR : rPR b I w) (e : x = iI (c : Int)) (hc : c < 12) (t : isCut w c → Q (.inl (some (zi (iI 1)))) (I, L, R)) (f : ¬ isCut w c → Q (.inl (some (zi (iI 0)))) (I, L, R)) : zS 50 d [zr (some b), zi x] (I, L, R) Q := by
  subst e
  have hL' := hL
  obtain ⟨k0, p3, p4, p5, p6, p7, p8, k1, k14, k15, k16, k17, k18, krow⟩ := hL'
  have r0 := hR.1
  have r2 := hR.2.2.1
  have hlt := fm_lt hk
  have hcu := hk.2.2.1
  obtain ⟨m1, -⟩ := hR.2.2.2.2.2.2 c hc
  have hm := (hk.2.2.2.2 c hc).1
  have hm5 := mxA_le (rFm w)
  have h2 : cutN (rFm w) ≤ 2 := by unfold cutN; split <;> decide
  have main : ∀ (x : Int32), x = iI (cutN (rFm w) : Int) → zW 50 d 0 0 14 [some (zr (some b)), some (zi (iI (c : Int))), none, none, none] [zi x] (I, L, R) Q := by
    intro x ex
    subst ex
    refine zW.gz [] rfl rfl rfl (by omega) trivial ⟨_, rfl, k0⟩ rfl rfl (Nat.le_refl _) (Nat.le_refl _) ?_
    refine isAvg_ok (by omega) hL hk hR (fun hav => ?_) (fun hav => ?_)
    · refine zW.gbf [] rfl rfl rfl (by omega) trivial ?_ (zW.gb [] rfl rfl rfl (by omega) ?_ (fun h => ?_) (fun h => ?_))
      · exact (by simp (disch := omega) only [eq_self, not_true_eq_false, not_false_eq_true, upI_same, upL_same, upI_ne, upL_ne, iI_ixN, zI_mk, zL_mk, zP_mk, zK_mk, zN_mk, zwI_up, zwL_up, zg_some, Nat.reduceMod, Nat.reduceDiv, zcn_I, iI_add, iI_sub, iI_mul, iI_neg, iI_lt, iI_le, iI_eq, iI_lt0, iI_le0, iI_gt0, iI_ge0, iI_eq0] <;> omega)
      · exact (by simp (disch := omega) only [true_or, or_true, eq_self, Option.some.injEq, Prod.mk.injEq, zall_0, zall_1, zall_2, zob_iff, zar_iff, zis_iff, zkIs_some, zkHas_some, iI_vp, z01_I, z01_bz, zch_I, true_and, and_true, or_false, false_or, and_self, upI_same, upL_same, upI_ne, upL_ne, iI_ixN, zI_mk, zL_mk, zP_mk, zK_mk, zN_mk, zwI_up, zwL_up, zg_some, Nat.reduceMod, Nat.reduceDiv, zcn_I, iI_add, iI_sub, iI_mul, iI_neg, iI_lt, iI_le, iI_eq, iI_lt0, iI_le0, iI_gt0, iI_ge0, iI_eq0, k0] <;> omega)
      · simp (disch := omega) only [upI_same, upL_same, upI_ne, upL_ne, iI_ixN, zI_mk, zL_mk, zP_mk, zK_mk, zN_mk, zwI_up, zwL_up, zg_some, Nat.reduceMod, Nat.reduceDiv, zcn_I, iI_add, iI_sub, iI_mul, iI_neg, iI_lt, iI_le, iI_eq, iI_lt0, iI_le0, iI_gt0, iI_ge0, iI_eq0, r2] at h
        refine zW.gr [] rfl rfl rfl (by omega) trivial z01c0 ?_
        rw [zcn_I]
        exact f fun q => q.2.1 (by omega)
      · simp (disch := omega) only [upI_same, upL_same, upI_ne, upL_ne, iI_ixN, zI_mk, zL_mk, zP_mk, zK_mk, zN_mk, zwI_up, zwL_up, zg_some, Nat.reduceMod, Nat.reduceDiv, zcn_I, iI_add, iI_sub, iI_mul, iI_neg, iI_lt, iI_le, iI_eq, iI_lt0, iI_le0, iI_gt0, iI_ge0, iI_eq0, r2] at h
        refine zW.gb [] rfl rfl rfl (by omega) ?_ (fun h3 => ?_) (fun h3 => ?_)
        · simp (disch := omega) only [upI_same, upL_same, upI_ne, upL_ne, iI_ixN, zI_mk, zL_mk, zP_mk, zK_mk, zN_mk, zwI_up, zwL_up, zg_some, Nat.reduceMod, Nat.reduceDiv, zcn_I, iI_add, iI_sub, iI_mul, iI_neg, iI_lt, iI_le, iI_eq, iI_lt0, iI_le0, iI_gt0, iI_ge0, iI_eq0, p4]
          exact (by simp (disch := omega) only [true_or, or_true, eq_self, Option.some.injEq, Prod.mk.injEq, zall_0, zall_1, zall_2, zob_iff, zar_iff, zis_iff, zkIs_some, zkHas_some, iI_vp, z01_I, z01_bz, zch_I, true_and, and_true, or_false, false_or, and_self, upI_same, upL_same, upI_ne, upL_ne, iI_ixN, zI_mk, zL_mk, zP_mk, zK_mk, zN_mk, zwI_up, zwL_up, zg_some, Nat.reduceMod, Nat.reduceDiv, zcn_I, iI_add, iI_sub, iI_mul, iI_neg, iI_lt, iI_le, iI_eq, iI_lt0, iI_le0, iI_gt0, iI_ge0, iI_eq0, k0, p4, k14] <;> omega)
        · simp (disch := omega) only [upI_same, upL_same, upI_ne, upL_ne, iI_ixN, zI_mk, zL_mk, zP_mk, zK_mk, zN_mk, zwI_up, zwL_up, zg_some, Nat.reduceMod, Nat.reduceDiv, zcn_I, iI_add, iI_sub, iI_mul, iI_neg, iI_lt, iI_le, iI_eq, iI_lt0, iI_le0, iI_gt0, iI_ge0, iI_eq0, p4, m1] at h3
          refine zW.go [43] rfl (by omega) trivial ?_
          refine cut_lp (by omega) hL hk hR hc hav (by omega) (fun q => t ⟨hav, by omega, by omega, q⟩) (fun q => f fun q2 => q q2.2.2.2) (cutN (rFm w)) 0 (by omega) _ _ (fun i h => absurd h (Nat.not_lt_zero i)) rfl
        · simp (disch := omega) only [upI_same, upL_same, upI_ne, upL_ne, iI_ixN, zI_mk, zL_mk, zP_mk, zK_mk, zN_mk, zwI_up, zwL_up, zg_some, Nat.reduceMod, Nat.reduceDiv, zcn_I, iI_add, iI_sub, iI_mul, iI_neg, iI_lt, iI_le, iI_eq, iI_lt0, iI_le0, iI_gt0, iI_ge0, iI_eq0, p4, m1] at h3
          refine zW.gr [] rfl rfl rfl (by omega) trivial z01c0 ?_
          rw [zcn_I]
          exact f fun q => by have := q.2.2.1; omega
    · refine zW.gbt [] rfl rfl rfl (by omega) trivial ?_ (zW.gr [] rfl rfl rfl (by omega) trivial z01c0 ?_)
      · exact (by simp (disch := omega) only [eq_self, not_true_eq_false, not_false_eq_true, upI_same, upL_same, upI_ne, upL_ne, iI_ixN, zI_mk, zL_mk, zP_mk, zK_mk, zN_mk, zwI_up, zwL_up, zg_some, Nat.reduceMod, Nat.reduceDiv, zcn_I, iI_add, iI_sub, iI_mul, iI_neg, iI_lt, iI_le, iI_eq, iI_lt0, iI_le0, iI_gt0, iI_ge0, iI_eq0] <;> omega)
      · rw [zcn_I]
        exact f fun q => hav q.1
  by_cases c1 : rFm w = 53
  · refine zW.gbf [] rfl rfl rfl (by omega) ?_ ?_ (zW.go [14] rfl (by omega) trivial (main _ ?_))
    · exact (by simp (disch := omega) only [true_or, or_true, eq_self, Option.some.injEq, Prod.mk.injEq, zall_0, zall_1, zall_2, zob_iff, zar_iff, zis_iff, zkIs_some, zkHas_some, iI_vp, z01_I, z01_bz, zch_I, true_and, and_true, or_false, false_or, and_self, upI_same, upL_same, upI_ne, upL_ne, iI_ixN, zI_mk, zL_mk, zP_mk, zK_mk, zN_mk, zwI_up, zwL_up, zg_some, Nat.reduceMod, Nat.reduceDiv, zcn_I, iI_add, iI_sub, iI_mul, iI_neg, iI_lt, iI_le, iI_eq, iI_lt0, iI_le0, iI_gt0, iI_ge0, iI_eq0, k0] <;> omega)
    · exact (by simp (disch := omega) only [eq_self, not_true_eq_false, not_false_eq_true, upI_same, upL_same, upI_ne, upL_ne, iI_ixN, zI_mk, zL_mk, zP_mk, zK_mk, zN_mk, zwI_up, zwL_up, zg_some, Nat.reduceMod, Nat.reduceDiv, zcn_I, iI_add, iI_sub, iI_mul, iI_neg, iI_lt, iI_le, iI_eq, iI_lt0, iI_le0, iI_gt0, iI_ge0, iI_eq0, r0] <;> omega)
    · unfold cutN
      rw [if_pos c1, zcn_I]
      rfl
  · refine zW.gbt [] rfl rfl rfl (by omega) ?_ ?_ (zW.go [14] rfl (by omega) trivial (main _ ?_))
    · exact (by simp (disch := omega) only [true_or, or_true, eq_self, Option.some.injEq, Prod.mk.injEq, zall_0, zall_1, zall_2, zob_iff, zar_iff, zis_iff, zkIs_some, zkHas_some, iI_vp, z01_I, z01_bz, zch_I, true_and, and_true, or_false, false_or, and_self, upI_same, upL_same, upI_ne, upL_ne, iI_ixN, zI_mk, zL_mk, zP_mk, zK_mk, zN_mk, zwI_up, zwL_up, zg_some, Nat.reduceMod, Nat.reduceDiv, zcn_I, iI_add, iI_sub, iI_mul, iI_neg, iI_lt, iI_le, iI_eq, iI_lt0, iI_le0, iI_gt0, iI_ge0, iI_eq0, k0] <;> omega)
    · exact (by simp (disch := omega) only [eq_self, not_true_eq_false, not_false_eq_true, upI_same, upL_same, upI_ne, upL_ne, iI_ixN, zI_mk, zL_mk, zP_mk, zK_mk, zN_mk, zwI_up, zwL_up, zg_some, Nat.reduceMod, Nat.reduceDiv, zcn_I, iI_add, iI_sub, iI_mul, iI_neg, iI_lt, iI_le, iI_eq, iI_lt0, iI_le0, iI_gt0, iI_ge0, iI_eq0, r0] <;> omega)
    · unfold cutN
      rw [if_neg c1, zcn_I]
      rfl
theorem more_ok {c : Nat} {x : Int32} (hd : 3 ≤ d) (hL : RLy b R) (hk : rOK w) (hR : rPR b I w) (e : x = iI (c : Int)) (hc : c < 12) (t : mayM w c → Q (.inl (some (zi (iI 1)))) (I, L, R)) (f : ¬ mayM w c → Q (.inl (some (zi (iI 0)))) (I, L, R)) : zS 49 d [zr (some b), zi x] (I, L, R) Q := by
  subst e
  have hL' := hL
  obtain ⟨k0, p3, p4, p5, p6, p7, p8, k1, k14, k15, k16, k17, k18, krow⟩ := hL'
  obtain ⟨m1, -⟩ := hR.2.2.2.2.2.2 c hc
  have hm := (hk.2.2.2.2 c hc).1
  have hm5 := mxA_le (rFm w)
  refine zW.gz [] rfl rfl rfl (by omega) ?_ ?_ rfl rfl (Nat.le_refl _) (Nat.le_refl _) ?_
  · simp (disch := omega) only [upI_same, upL_same, upI_ne, upL_ne, iI_ixN, zI_mk, zL_mk, zP_mk, zK_mk, zN_mk, zwI_up, zwL_up, zg_some, Nat.reduceMod, Nat.reduceDiv, zcn_I, iI_add, iI_sub, iI_mul, iI_neg, iI_lt, iI_le, iI_eq, iI_lt0, iI_le0, iI_gt0, iI_ge0, iI_eq0, p4]
    exact (by simp (disch := omega) only [true_or, or_true, eq_self, Option.some.injEq, Prod.mk.injEq, zall_0, zall_1, zall_2, zob_iff, zar_iff, zis_iff, zkIs_some, zkHas_some, iI_vp, z01_I, z01_bz, zch_I, true_and, and_true, or_false, false_or, and_self, upI_same, upL_same, upI_ne, upL_ne, iI_ixN, zI_mk, zL_mk, zP_mk, zK_mk, zN_mk, zwI_up, zwL_up, zg_some, Nat.reduceMod, Nat.reduceDiv, zcn_I, iI_add, iI_sub, iI_mul, iI_neg, iI_lt, iI_le, iI_eq, iI_lt0, iI_le0, iI_gt0, iI_ge0, iI_eq0, k0, p4, k14] <;> omega)
  · exact ⟨_, rfl, k0⟩
  · simp (disch := omega) only [upI_same, upL_same, upI_ne, upL_ne, iI_ixN, zI_mk, zL_mk, zP_mk, zK_mk, zN_mk, zwI_up, zwL_up, zg_some, Nat.reduceMod, Nat.reduceDiv, zcn_I, iI_add, iI_sub, iI_mul, iI_neg, iI_lt, iI_le, iI_eq, iI_lt0, iI_le0, iI_gt0, iI_ge0, iI_eq0, p4, m1]
    refine inAll_ok (by omega) hL hk hR ?_
    refine zW.gb [] rfl rfl rfl (by omega) trivial (fun h => ?_) (fun h => ?_)
    · simp (disch := omega) only [upI_same, upL_same, upI_ne, upL_ne, iI_ixN, zI_mk, zL_mk, zP_mk, zK_mk, zN_mk, zwI_up, zwL_up, zg_some, Nat.reduceMod, Nat.reduceDiv, zcn_I, iI_add, iI_sub, iI_mul, iI_neg, iI_lt, iI_le, iI_eq, iI_lt0, iI_le0, iI_gt0, iI_ge0, iI_eq0] at h
      refine zW.gr [] rfl rfl rfl (by omega) trivial z01c0 ?_
      rw [zcn_I]
      exact f fun q => by have := q.1; omega
    · simp (disch := omega) only [upI_same, upL_same, upI_ne, upL_ne, iI_ixN, zI_mk, zL_mk, zP_mk, zK_mk, zN_mk, zwI_up, zwL_up, zg_some, Nat.reduceMod, Nat.reduceDiv, zcn_I, iI_add, iI_sub, iI_mul, iI_neg, iI_lt, iI_le, iI_eq, iI_lt0, iI_le0, iI_gt0, iI_ge0, iI_eq0] at h
      refine zW.gz [] rfl rfl rfl (by omega) trivial ⟨_, rfl, k0⟩ rfl rfl (Nat.le_refl _) (Nat.le_refl _) ?_
      refine isCut_ok (by omega) hL hk hR rfl hc (fun q => ?_) (fun q => ?_)
      · refine zW.gbt [] rfl rfl rfl (by omega) trivial ?_ (zW.gr [] rfl rfl rfl (by omega) trivial z01c0 ?_)
        · exact (by simp (disch := omega) only [eq_self, not_true_eq_false, not_false_eq_true, upI_same, upL_same, upI_ne, upL_ne, iI_ixN, zI_mk, zL_mk, zP_mk, zK_mk, zN_mk, zwI_up, zwL_up, zg_some, Nat.reduceMod, Nat.reduceDiv, zcn_I, iI_add, iI_sub, iI_mul, iI_neg, iI_lt, iI_le, iI_eq, iI_lt0, iI_le0, iI_gt0, iI_ge0, iI_eq0] <;> omega)
        · rw [zcn_I]
          exact f fun q2 => q2.2 q
      · refine zW.gbf [] rfl rfl rfl (by omega) trivial ?_ (zW.gr [] rfl rfl rfl (by omega) trivial z01c1 ?_)
        · exact (by simp (disch := omega) only [eq_self, not_true_eq_false, not_false_eq_true, upI_same, upL_same, upI_ne, upL_ne, iI_ixN, zI_mk, zL_mk, zP_mk, zK_mk, zN_mk, zwI_up, zwL_up, zg_some, Nat.reduceMod, Nat.reduceDiv, zcn_I, iI_add, iI_sub, iI_mul, iI_neg, iI_lt, iI_le, iI_eq, iI_lt0, iI_le0, iI_gt0, iI_ge0, iI_eq0] <;> omega)
        · rw [zcn_I]
          exact t ⟨by omega, q⟩
end ROUND2
