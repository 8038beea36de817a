/-! The model takes puzzles and makes rounds. -/
section MNEW
variable {d y : Nat} {T : tfT} {I : Nat → Nat → Int32} {L : Nat → Nat → Int64} {R : zRt} {Q : zO → zM → Prop}
theorem mf_newP {n : Nat} {I' : Nat → Nat → Int32} {L' : Nat → Nat → Int64} (h : mf y T (I, L, R)) (h4 : tPn T < 4) (hz : zOK n 0 (fun _ p => p) (fun p => p) (fun p => p)) (f : ∀ a, ¬ scA y a → a ≠ y + 2 → a ≠ y + 42 + tPn T → a ≠ y + 47 + tPn T → I' a = I a) (f0 : ∀ k, k ≠ 33 → k ≠ 36 → k ≠ 37 → k ≠ 41 → I' y k = I y k) (f33 : I' y 33 = iI ((tPn T + 1 : Nat) : Int)) (f2 : ∀ j, j ≠ tPn T → I' (y + 2) j = I (y + 2) j) (f2' : I' (y + 2) (tPn T) = iI (n : Int)) (hc : ∀ p, p < 10 → I' (y + 42 + tPn T) p = iI (p : Int)) (hs : ∀ p, p < 10 → I' (y + 47 + tPn T) p = iI (p : Int)) : mf y (tNewP T n) (I', L', R) := by
  obtain ⟨hT, hM, hN, ⟨a1, a2⟩, ⟨b1, b2, b3⟩, ⟨c1, c2⟩, ⟨d1, d2⟩, ⟨g1, g2, g3⟩, g, l⟩ := h
  have hr8 := hT.2.2.2.2.1.1
  have hI : ∀ a, ¬ scA y a → ¬ (y + 42 ≤ a ∧ a ≤ y + 50) → a ≠ y + 2 → I' a = I a := fun a q1 q2 q3 => f a q1 q3 (by omega) (by omega)
  refine ⟨⟨hT.1, ⟨by show tPn T + 1 ≤ 4; omega, fun k hk => ?_⟩, hT.2.2⟩, hM, hN, ⟨(f0 32 (by omega) (by omega) (by omega) (by omega)).trans a1, ?_⟩, ⟨f33, fun k hk => ?_, fun k q1 q2 => ?_⟩, ⟨(f0 35 (by omega) (by omega) (by omega) (by omega)).trans c1, ?_⟩, ⟨(f0 38 (by omega) (by omega) (by omega) (by omega)).trans d1, fun c hc => ?_⟩, ⟨(f0 39 (by omega) (by omega) (by omega) (by omega)).trans g1, fun j hj => mRd_cg (by have : j < tRn T := hj; omega) (g2 j hj) (fun a q1 q2 => hI a (fun q => by unfold scA at q; omega) (by omega) (by omega)), fun j q1 q2 => mR0_cg q2 (g3 j q1 q2) (fun a q1 q2 => hI a (fun q => by unfold scA at q; omega) (by omega) (by omega))⟩, (f0 40 (by omega) (by omega) (by omega) (by omega)).trans g, ?_⟩
  · show zOK (pzN (exb (tPz T) (tPn T) (pz0 n) k)) (pzR (exb (tPz T) (tPn T) (pz0 n) k)) (pzT (exb (tPz T) (tPn T) (pz0 n) k)) (pzC (exb (tPz T) (tPn T) (pz0 n) k)) (pzS (exb (tPz T) (tPn T) (pz0 n) k))
    have hk : k < tPn T + 1 := hk
    by_cases e : k = tPn T
    · rw [e, exb_s]
      exact hz
    · rw [exb_o e]
      exact hT.2.1.2 k (by omega)
  · show hl (I' (y + 1)) _
    rw [hI _ (fun q => by unfold scA at q; omega) (by omega) (by omega)]
    exact a2
  · show mPz y k I' (exb (tPz T) (tPn T) (pz0 n) k)
    have hk : k < tPn T + 1 := hk
    by_cases e : k = tPn T
    · rw [e, exb_s]
      refine ⟨f2', ?_, fun a p q1 q2 => absurd q1 (Nat.not_lt_zero a), hc, hs⟩
      rw [hI _ (fun q => by unfold scA at q; omega) (by omega) (by omega)]
      exact b3 _ (Nat.le_refl _) h4
    · rw [exb_o e]
      refine mPz_cg (b2 k (by omega)) (hT.2.1.2 k (by omega)).2.2.1 (f2 k e) ?_ (fun a ha => ?_) ?_ ?_
      · exact congrFun (hI _ (fun q => by unfold scA at q; omega) (by omega) (by omega)) _
      · exact hI _ (fun q => by unfold scA at q; omega) (by omega) (by omega)
      · exact f _ (fun q => by unfold scA at q; omega) (by omega) (by omega) (by omega)
      · exact f _ (fun q => by unfold scA at q; omega) (by omega) (by omega) (by omega)
  · have q1 : tPn T + 1 ≤ k := q1
    exact (congrFun (hI _ (fun q => by unfold scA at q; omega) (by omega) (by omega)) _).trans (b3 k (by omega) q2)
  · show hl (I' (y + 1782)) _
    rw [hI _ (fun q => by unfold scA at q; omega) (by omega) (by omega)]
    exact c2
  · exact (congrFun (hI _ (fun q => by unfold scA at q; omega) (by omega) (by omega)) _).trans (d2 c hc)
  · have l' := mLd_cg l (f0 34 (by omega) (by omega) (by omega) (by omega)) (fun a q1 q2 => hI a (fun q => by unfold scA at q; omega) (by omega) (by omega))
    rcases l' with l' | ⟨p, p1, p2, p3, p4⟩
    · exact Or.inl l'
    · refine Or.inr ⟨p, by show p < tPn T + 1; omega, p2, ?_⟩
      show pzZ (exb (tPz T) (tPn T) (pz0 n) p) ≤ 800 ∧ ∀ k, k < pzZ (exb (tPz T) (tPn T) (pz0 n) p) → (∀ q, q < 10 → I' (y + 178 + k) q = iI (stG (pzG (exb (tPz T) (tPn T) (pz0 n) p)) k q : Int)) ∧ ∀ a, a < 2 * pzR (exb (tPz T) (tPn T) (pz0 n) p) → I' (y + 979 + k) a = iI (nxG (pzG (exb (tPz T) (tPn T) (pz0 n) p)) (pzT (exb (tPz T) (tPn T) (pz0 n) p)) a k : Int)
      rw [exb_o (by omega)]
      exact ⟨p3, p4⟩
theorem newP_lp {z : Int32} (hd : 1 ≤ d) (hM : ML y R) {I0 : Nat → Nat → Int32} {pn : Nat} (h4 : pn < 4) (h33 : I0 y 33 = iI (pn : Int))
    (hQ : ∀ I' v, (∀ a, a ≠ y + 42 + pn → a ≠ y + 47 + pn → I' a = I0 a) → (∀ p : Nat, p < 10 → I' (y + 42 + pn) p = iI (p : Int)) → (∀ p : Nat, p < 10 → I' (y + 47 + pn) p = iI (p : Int)) → zW 166 d 0 0 94 [some (zr (some y)), some (zi z), some (zi v)] [] (I', L, R) Q) :
    ∀ m k, k + m = 10 → ∀ (I1 : Nat → Nat → Int32) (x : Int32), (∀ a, a ≠ y + 42 + pn → a ≠ y + 47 + pn → I1 a = I0 a) → (∀ p : Nat, p < k → I1 (y + 42 + pn) p = iI (p : Int)) → (∀ p : Nat, p < k → I1 (y + 47 + pn) p = iI (p : Int)) → x = iI (k : Int) → zW 166 d 0 0 58 [some (zr (some y)), some (zi z), some (zi x)] [] (I1, L, R) Q
  | 0, k, hk, I1, x, f1, f2, f3, e => by
    subst e
    obtain rfl : k = 10 := by omega
    exact zW.gbt [] rfl rfl rfl (by omega) trivial (by simp (disch := omega) only [eq_self, not_true_eq_false, not_false_eq_true, upI_same, upL_same, upI_ne, upL_ne, iI_ixN, zI_mk, zL_mk, zP_mk, zK_mk, zN_mk, zwI_up, zwL_up, zg_some, Nat.reduceMod, Nat.reduceDiv, zcn_I, iI_add, iI_sub, iI_mul, iI_neg, iI_lt, iI_le, iI_eq, iI_lt0, iI_le0, iI_gt0, iI_ge0, iI_eq0] <;> omega) (hQ I1 _ f1 f2 f3)
  | m + 1, k, hk, I1, x, f1, f2, f3, e => by
    subst e
    have k0 : R.2.1 y = some (7, 0) := hM.1
    have v33 : I1 y 33 = iI (pn : Int) := by
      rw [f1 y (by omega) (by omega)]
      exact h33
    have p4 : R.1 y 4 = some (y + 41) := (hM.2.1 4 (by decide)).1; have k4 : R.2.1 (y + 41) = some (25, 4) := (hM.2.1 4 (by decide)).2; have p5 : R.1 y 5 = some (y + 46) := (hM.2.1 5 (by decide)).1; have k5 : R.2.1 (y + 46) = some (25, 4) := (hM.2.1 5 (by decide)).2; have q4 : R.1 (y + 41) (pn) = some (y + 42 + pn) := (hM.2.2.2.1 (pn) (by omega)).1.trans (congrArg some (by omega)); have j4 : R.2.1 (y + 42 + pn) = some (20, 10) := (congrArg R.2.1 (by omega)).trans (hM.2.2.2.1 (pn) (by omega)).2; have q5 : R.1 (y + 46) (pn) = some (y + 47 + pn) := (hM.2.2.2.2.1 (pn) (by omega)).1.trans (congrArg some (by omega)); have j5 : R.2.1 (y + 47 + pn) = some (20, 10) := (congrArg R.2.1 (by omega)).trans (hM.2.2.2.2.1 (pn) (by omega)).2
    refine zW.gbf [] rfl rfl rfl (by omega) trivial (by simp (disch := omega) only [eq_self, not_true_eq_false, not_false_eq_true, upI_same, upL_same, upI_ne, upL_ne, iI_ixN, zI_mk, zL_mk, zP_mk, zK_mk, zN_mk, zwI_up, zwL_up, zg_some, Nat.reduceMod, Nat.reduceDiv, zcn_I, iI_add, iI_sub, iI_mul, iI_neg, iI_lt, iI_le, iI_eq, iI_lt0, iI_le0, iI_gt0, iI_ge0, iI_eq0] <;> omega) ?_
    refine zW.go [58] rfl (by omega) ?_ ?_
    · simp (disch := omega) only [true_or, or_true, eq_self, Option.some.injEq, Prod.mk.injEq, zall_0, zall_1, zall_2, zob_iff, zar_iff, zis_iff, zkIs_some, zkHas_some, iI_vp, z01_I, z01_bz, zch_I, true_and, and_true, or_false, false_or, and_self, upI_same, upL_same, upI_ne, upL_ne, iI_ixN, zI_mk, zL_mk, zP_mk, zK_mk, zN_mk, zwI_up, zwL_up, zg_some, Nat.reduceMod, Nat.reduceDiv, zcn_I, iI_add, iI_sub, iI_mul, iI_neg, iI_lt, iI_le, iI_eq, iI_lt0, iI_le0, iI_gt0, iI_ge0, iI_eq0, k0, p4, k4, q4, j4, p5, k5, q5, j5, v33]
      omega
    simp (disch := omega) only [upI_same, upL_same, upI_ne, upL_ne, iI_ixN, zI_mk, zL_mk, zP_mk, zK_mk, zN_mk, zwI_up, zwL_up, zg_some, Nat.reduceMod, Nat.reduceDiv, p4, q4, p5, q5, v33]
    refine newP_lp hd hM h4 h33 hQ m (k + 1) (by omega) _ _ (fun a q1 q2 => ?_) (fun p hp => ?_) (fun p hp => ?_) (by rw [zcn_I, iI_add]; rfl)
    · rw [upI_row q2, upI_row q1]
      exact f1 a q1 q2
    · rw [upI_ne (by omega)]
      by_cases e : p = k
      · rw [e, upI_same]
      · rw [upI_ne (by omega)]
        exact f2 p (by omega)
    · by_cases e : p = k
      · rw [e, upI_same]
      · rw [upI_ne (by omega), upI_ne (by omega)]
        exact f3 p (by omega)
theorem mPuz_ok {v : Int} {a : Int32} (hd : 6 ≤ d) (h : mf y T (I, L, R)) (e1 : a = iI v) (h1 : i32 v) (hQ : mP y (I, L, R) (oPuz T v) eI Q) : zS 166 d [zr (some y), zi a] (I, L, R) Q := by
  subst e1
  have hM := h.2.1
  have k0 : R.2.1 y = some (7, 0) := hM.1
  have b1 : I y 33 = iI (tPn T : Int) := h.2.2.2.2.1.1
  have hn := h.1.2.1.1
  have F : ∀ q, tru (¬ (3 ≤ v ∧ v ≤ 10)) q → zW 166 d 0 0 16 [some (zr (some y)), some (zi (iI v)), none] [zi q, zr (some y)] (I, L, R) Q := fun q hq => by
    refine zW.gz [] rfl rfl rfl (by omega) trivial ⟨_, rfl, k0⟩ rfl rfl (by decide +kernel) (by decide +kernel) ?_
    refine mThr_ok (k := 1) (by omega) k0 hq (zcn_I _) (fun hb => ?_) (fun hg => ?_)
    · refine zW.gbt [] rfl rfl rfl (by omega) trivial (by simp (disch := omega) only [eq_self, not_true_eq_false, not_false_eq_true, upI_same, upL_same, upI_ne, upL_ne, iI_ixN, zI_mk, zL_mk, zP_mk, zK_mk, zN_mk, zwI_up, zwL_up, zg_some, Nat.reduceMod, Nat.reduceDiv, zcn_I, iI_add, iI_sub, iI_mul, iI_neg, iI_lt, iI_le, iI_eq, iI_lt0, iI_le0, iI_gt0, iI_ge0, iI_eq0] <;> omega) ?_
      refine zW.gr [] rfl rfl rfl (by omega) trivial trivial ?_; rw [zcn_I]
      refine mP_t hQ (c := 0) (v := 0) ?_ (mf_scr h th_scr) (mgr_o (scr_o th_scr)) (upI_same _ _ _ _) 0
      exact if_pos hb
    · refine zW.gbf [] rfl rfl rfl (by omega) trivial (by simp (disch := omega) only [eq_self, not_true_eq_false, not_false_eq_true, upI_same, upL_same, upI_ne, upL_ne, iI_ixN, zI_mk, zL_mk, zP_mk, zK_mk, zN_mk, zwI_up, zwL_up, zg_some, Nat.reduceMod, Nat.reduceDiv, zcn_I, iI_add, iI_sub, iI_mul, iI_neg, iI_lt, iI_le, iI_eq, iI_lt0, iI_le0, iI_gt0, iI_ge0, iI_eq0] <;> omega) ?_
      unfold oPuz at hQ
      rw [if_neg hg] at hQ
      obtain ⟨n, rfl⟩ : ∃ j : Nat, v = j := ⟨v.toNat, by omega⟩
      rw [show ((n : Int)).toNat = n from rfl] at hQ
      have G : ∀ q, tru (¬ tPn T < 4) q → zW 166 d 0 0 37 [some (zr (some y)), some (zi (iI (n : Int))), none] [zi q, zr (some y)] (upI I y 41 (iI 0), L, R) Q := fun q hq => by
        refine zW.gz [] rfl rfl rfl (by omega) trivial ⟨_, rfl, k0⟩ rfl rfl (by decide +kernel) (by decide +kernel) ?_
        refine mThr_ok (k := 2) (by omega) k0 hq (zcn_I _) (fun hb => ?_) (fun hg2 => ?_)
        · refine zW.gbf [] rfl rfl rfl (by omega) trivial (by simp (disch := omega) only [eq_self, not_true_eq_false, not_false_eq_true, upI_same, upL_same, upI_ne, upL_ne, iI_ixN, zI_mk, zL_mk, zP_mk, zK_mk, zN_mk, zwI_up, zwL_up, zg_some, Nat.reduceMod, Nat.reduceDiv, zcn_I, iI_add, iI_sub, iI_mul, iI_neg, iI_lt, iI_le, iI_eq, iI_lt0, iI_le0, iI_gt0, iI_ge0, iI_eq0] <;> omega) ?_
          refine zW.gr [] rfl rfl rfl (by omega) trivial trivial ?_; rw [zcn_I]
          exact mP_t hQ (c := 1) (v := 0) (if_pos hb) (mf_scr h th2_scr) (mgr_o (scr_o th2_scr)) (upI_same _ _ _ _) 0
        · refine zW.gbt [] rfl rfl rfl (by omega) trivial (by simp (disch := omega) only [eq_self, not_true_eq_false, not_false_eq_true, upI_same, upL_same, upI_ne, upL_ne, iI_ixN, zI_mk, zL_mk, zP_mk, zK_mk, zN_mk, zwI_up, zwL_up, zg_some, Nat.reduceMod, Nat.reduceDiv, zcn_I, iI_add, iI_sub, iI_mul, iI_neg, iI_lt, iI_le, iI_eq, iI_lt0, iI_le0, iI_gt0, iI_ge0, iI_eq0] <;> omega) ?_
          rw [if_neg hg2] at hQ
          have hm3 : mf y T (upI (upI I y 41 (iI 0)) y 41 (iI 0), L, R) := mf_scr h th2_scr
          have p1 : R.1 y 1 = some (y + 2) := (hM.2.1 1 (by decide)).1; have k1 : R.2.1 (y + 2) = some (20, 4) := (hM.2.1 1 (by decide)).2
          refine zW.go [58] rfl (by omega) ?_ ?_
          · simp (disch := omega) only [true_or, or_true, eq_self, Option.some.injEq, Prod.mk.injEq, zall_0, zall_1, zall_2, zob_iff, zar_iff, zis_iff, zkIs_some, zkHas_some, iI_vp, z01_I, z01_bz, zch_I, true_and, and_true, or_false, false_or, and_self, upI_same, upL_same, upI_ne, upL_ne, iI_ixN, zI_mk, zL_mk, zP_mk, zK_mk, zN_mk, zwI_up, zwL_up, zg_some, Nat.reduceMod, Nat.reduceDiv, zcn_I, iI_add, iI_sub, iI_mul, iI_neg, iI_lt, iI_le, iI_eq, iI_lt0, iI_le0, iI_gt0, iI_ge0, iI_eq0, k0, p1, k1, b1]
            omega
          simp (disch := omega) only [upI_same, upL_same, upI_ne, upL_ne, iI_ixN, zI_mk, zL_mk, zP_mk, zK_mk, zN_mk, zwI_up, zwL_up, zg_some, Nat.reduceMod, Nat.reduceDiv, p1, b1]
          refine newP_lp (pn := tPn T) (by omega) hM (by omega) (by simp (disch := omega) only [upI_same, upL_same, upI_ne, upL_ne, iI_ixN, zI_mk, zL_mk, zP_mk, zK_mk, zN_mk, zwI_up, zwL_up, zg_some, Nat.reduceMod, Nat.reduceDiv, zcn_I, iI_add, iI_sub, iI_mul, iI_neg, iI_lt, iI_le, iI_eq, iI_lt0, iI_le0, iI_gt0, iI_ge0, iI_eq0, b1]) (fun I' w u1 u2 u3 => ?_) 10 0 rfl _ _ (fun _ _ _ => rfl) all_0 all_0 (zcn_I _)
          have w33 : I' y 33 = iI (tPn T : Int) := by
            rw [u1 y (by omega) (by omega)]
            simp (disch := omega) only [upI_same, upL_same, upI_ne, upL_ne, iI_ixN, zI_mk, zL_mk, zP_mk, zK_mk, zN_mk, zwI_up, zwL_up, zg_some, Nat.reduceMod, Nat.reduceDiv, zcn_I, iI_add, iI_sub, iI_mul, iI_neg, iI_lt, iI_le, iI_eq, iI_lt0, iI_le0, iI_gt0, iI_ge0, iI_eq0, b1]
          refine zW.gr [] rfl rfl rfl (by omega) (by simp (disch := omega) only [true_or, or_true, eq_self, Option.some.injEq, Prod.mk.injEq, zall_0, zall_1, zall_2, zob_iff, zar_iff, zis_iff, zkIs_some, zkHas_some, iI_vp, z01_I, z01_bz, zch_I, true_and, and_true, or_false, false_or, and_self, upI_same, upL_same, upI_ne, upL_ne, iI_ixN, zI_mk, zL_mk, zP_mk, zK_mk, zN_mk, zwI_up, zwL_up, zg_some, Nat.reduceMod, Nat.reduceDiv, zcn_I, iI_add, iI_sub, iI_mul, iI_neg, iI_lt, iI_le, iI_eq, iI_lt0, iI_le0, iI_gt0, iI_ge0, iI_eq0, k0] <;> omega) trivial ?_
          simp (disch := omega) only [upI_same, upL_same, upI_ne, upL_ne, iI_ixN, zI_mk, zL_mk, zP_mk, zK_mk, zN_mk, zwI_up, zwL_up, zg_some, Nat.reduceMod, Nat.reduceDiv, w33, iI_add, iI_sub, zcn_I]
          rw [show (tPn T : Int) + 1 - 1 = (tPn T : Int) by omega]
          refine mP_0 hQ rfl (mf_newP (n := n) hm3 (by omega) ⟨by omega, by omega, by decide, fun a h => absurd h (Nat.not_lt_zero a), fun i h => absurd h (Nat.not_lt_zero i), fun a h => absurd h (Nat.not_lt_zero a), fun p h => h, fun _ _ => rfl, pm_id n⟩ (fun a q1 q2 q3 q4 => ?_) (fun k q1 q2 q3 q4 => ?_) (upI_same _ _ _ _) (fun j q => ?_) ?_ (fun p hp => ?_) (fun p hp => ?_)) (mgr_o (mfo_of fun a q => ?_)) ?_
          · rw [upI_row (fun e => q1 (by rw [e]; exact Or.inl rfl)), u1 a q3 q4, upI_row q2]
          · rw [upI_ne (by omega), u1 y (by omega) (by omega)]
            simp (disch := omega) only [upI_same, upL_same, upI_ne, upL_ne, iI_ixN, zI_mk, zL_mk, zP_mk, zK_mk, zN_mk, zwI_up, zwL_up, zg_some, Nat.reduceMod, Nat.reduceDiv, zcn_I, iI_add, iI_sub, iI_mul, iI_neg, iI_lt, iI_le, iI_eq, iI_lt0, iI_le0, iI_gt0, iI_ge0, iI_eq0]
          · rw [upI_row (by omega), u1 _ (by omega) (by omega), upI_ne (by omega)]
          · rw [upI_row (by omega), u1 _ (by omega) (by omega), upI_same]
          · rw [upI_row (by omega)]
            exact u2 p hp
          · rw [upI_row (by omega)]
            exact u3 p hp
          · rw [upI_row (by omega), u1 _ (by omega) (by omega), upI_row (by omega), upI_row (by omega), upI_row (by omega)]
          · show upI I' y 33 _ y 41 = _
            rw [upI_ne (by omega), u1 y (by omega) (by omega)]
            simp (disch := omega) only [upI_same, upL_same, upI_ne, upL_ne, iI_ixN, zI_mk, zL_mk, zP_mk, zK_mk, zN_mk, zwI_up, zwL_up, zg_some, Nat.reduceMod, Nat.reduceDiv, zcn_I, iI_add, iI_sub, iI_mul, iI_neg, iI_lt, iI_le, iI_eq, iI_lt0, iI_le0, iI_gt0, iI_ge0, iI_eq0]
      refine zW.gb [] rfl rfl rfl (by omega) (by simp (disch := omega) only [true_or, or_true, eq_self, Option.some.injEq, Prod.mk.injEq, zall_0, zall_1, zall_2, zob_iff, zar_iff, zis_iff, zkIs_some, zkHas_some, iI_vp, z01_I, z01_bz, zch_I, true_and, and_true, or_false, false_or, and_self, upI_same, upL_same, upI_ne, upL_ne, iI_ixN, zI_mk, zL_mk, zP_mk, zK_mk, zN_mk, zwI_up, zwL_up, zg_some, Nat.reduceMod, Nat.reduceDiv, zcn_I, iI_add, iI_sub, iI_mul, iI_neg, iI_lt, iI_le, iI_eq, iI_lt0, iI_le0, iI_gt0, iI_ge0, iI_eq0, k0] <;> omega) (fun h' => ?_) (fun h' => ?_)
      · simp (disch := omega) only [zcn_I, iI_add, iI_sub, iI_mul, iI_neg, iI_lt, iI_le, iI_eq, iI_lt0, iI_le0, iI_gt0, iI_ge0, iI_eq0, upI_same, upL_same, upI_ne, upL_ne, iI_ixN, zI_mk, zL_mk, zP_mk, zK_mk, zN_mk, zwI_up, zwL_up, zg_some, Nat.reduceMod, Nat.reduceDiv, b1] at h'
        exact zW.go [37] rfl (by omega) trivial (G _ (tru_f (by omega)))
      · simp (disch := omega) only [zcn_I, iI_add, iI_sub, iI_mul, iI_neg, iI_lt, iI_le, iI_eq, iI_lt0, iI_le0, iI_gt0, iI_ge0, iI_eq0, upI_same, upL_same, upI_ne, upL_ne, iI_ixN, zI_mk, zL_mk, zP_mk, zK_mk, zN_mk, zwI_up, zwL_up, zg_some, Nat.reduceMod, Nat.reduceDiv, b1] at h'
        exact zW.go [37] rfl (by omega) trivial (G _ (tru_t (by omega)))
  refine zW.gz [] rfl rfl rfl (by omega) trivial trivial rfl rfl (by decide +kernel) (by decide +kernel) ?_
  refine mIn_ok (lo := 3) (hi := 10) (by omega) rfl (zcn_I _) (zcn_I _) h1 ⟨by omega, by omega⟩ ⟨by omega, by omega⟩ (fun q hq => ?_)
  rcases hq with ⟨g2, rfl⟩ | ⟨g2, rfl⟩
  · refine zW.gbt [] rfl rfl rfl (by omega) trivial (by simp (disch := omega) only [eq_self, not_true_eq_false, not_false_eq_true, upI_same, upL_same, upI_ne, upL_ne, iI_ixN, zI_mk, zL_mk, zP_mk, zK_mk, zN_mk, zwI_up, zwL_up, zg_some, Nat.reduceMod, Nat.reduceDiv, zcn_I, iI_add, iI_sub, iI_mul, iI_neg, iI_lt, iI_le, iI_eq, iI_lt0, iI_le0, iI_gt0, iI_ge0, iI_eq0] <;> omega) ?_
    exact zW.go [16] rfl (by omega) trivial (F _ (tru_f (fun c => c g2)))
  · refine zW.gbf [] rfl rfl rfl (by omega) trivial (by simp (disch := omega) only [eq_self, not_true_eq_false, not_false_eq_true, upI_same, upL_same, upI_ne, upL_ne, iI_ixN, zI_mk, zL_mk, zP_mk, zK_mk, zN_mk, zwI_up, zwL_up, zg_some, Nat.reduceMod, Nat.reduceDiv, zcn_I, iI_add, iI_sub, iI_mul, iI_neg, iI_lt, iI_le, iI_eq, iI_lt0, iI_le0, iI_gt0, iI_ge0, iI_eq0] <;> omega) ?_
    exact zW.go [16] rfl (by omega) trivial (F _ (tru_t g2))
/-- rounds anew -/
theorem mf_rd {T' : tfT} {I' : Nat → Nat → Int32} {L' : Nat → Nat → Int64} (h : mf y T (I, L, R)) (e1 : T'.1 = T.1) (e2 : T'.2.1 = T.2.1) (hO : tOK T') (f : ∀ a, ¬ scA y a → ¬ (y + 1785 ≤ a ∧ a ≤ y + 1940) → I' a = I a) (f0 : ∀ k, k = 32 ∨ k = 33 ∨ k = 34 ∨ k = 35 ∨ k = 38 → I' y k = I y k) (h1 : I' y 39 = iI (tRn T' : Int) ∧ (∀ j, j < tRn T' → mRd y j I' (tRd T' j)) ∧ ∀ j, tRn T' ≤ j → j < 8 → mR0 y j I') (h2 : I' y 40 = iI (tDy T' : Int)) : mf y T' (I', L', R) := by
  obtain ⟨t1, t2, t3⟩ := T'
  have e1 : t1 = T.1 := e1
  have e2 : t2 = T.2.1 := e2
  subst e1; subst e2
  obtain ⟨hT, hM, hN, ⟨a1, a2⟩, ⟨b1, b2, b3⟩, ⟨c1, c2⟩, ⟨d1, d2⟩, ⟨g1, g2, g3⟩, g, l⟩ := h
  have hp4 := hT.2.1.1
  have hI : ∀ a, ¬ scA y a → ¬ (y + 1785 ≤ a ∧ a ≤ y + 1940) → I' a = I a := f
  refine ⟨hO, hM, hN, ⟨(f0 32 (by omega)).trans a1, ?_⟩, ⟨(f0 33 (by omega)).trans b1, fun k hk => ?_, fun k q1 q2 => ?_⟩, ⟨(f0 35 (by omega)).trans c1, ?_⟩, ⟨(f0 38 (by omega)).trans d1, fun c hc => ?_⟩, h1, h2, mLd_cg l (f0 34 (by omega)) (fun a q1 q2 => hI a (fun q => by unfold scA at q; omega) (by omega))⟩
  · show hl (I' (y + 1)) _
    rw [hI _ (fun q => by unfold scA at q; omega) (by omega)]
    exact a2
  · have hk : k < tPn T := hk
    refine mPz_cg (b2 k hk) (hT.2.1.2 k hk).2.2.1 ?_ ?_ (fun a ha => ?_) ?_ ?_
    · exact congrFun (hI _ (fun q => by unfold scA at q; omega) (by omega)) _
    · exact congrFun (hI _ (fun q => by unfold scA at q; omega) (by omega)) _
    · exact hI _ (fun q => by unfold scA at q; omega) (by omega)
    · exact hI _ (fun q => by unfold scA at q; omega) (by omega)
    · exact hI _ (fun q => by unfold scA at q; omega) (by omega)
  · have q1 : tPn T ≤ k := q1
    exact (congrFun (hI _ (fun q => by unfold scA at q; omega) (by omega)) _).trans (b3 k q1 q2)
  · show hl (I' (y + 1782)) _
    rw [hI _ (fun q => by unfold scA at q; omega) (by omega)]
    exact c2
  · exact (congrFun (hI _ (fun q => by unfold scA at q; omega) (by omega)) _).trans (d2 c hc)
end MNEW
