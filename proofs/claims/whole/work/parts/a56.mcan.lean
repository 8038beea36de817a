/-! The model searches: one depth. -/
section MCAN
variable {y : Nat} {L : Nat → Nat → Int64} {R : zRt}
def csR (y at_ left : Nat) (T : tfT) (i : Nat) (I' : Nat → Nat → Int32) (q : Int32) : Prop := (∃ w, srch (pzT (tPz T i)) (pzC (tPz T i)) (2 * pzR (tPz T i)) left (fun p => pzC (tPz T i) (pzS (tPz T i) p)) = some w ∧ q = iI 1 ∧ ∀ j, j < left → I' (y + 1781) (at_ + j) = iI (nth w j : Int)) ∨ (srch (pzT (tPz T i)) (pzC (tPz T i)) (2 * pzR (tPz T i)) left (fun p => pzC (tPz T i) (pzS (tPz T i) p)) = none ∧ q = iI 0)
theorem mcs_ok : ∀ (left : Nat) {d at_ i : Nat} {T : tfT} {I : Nat → Nat → Int32} {Q : zO → zM → Prop} {a b c : Int32} (hd : left + 4 ≤ d) (h : mf y T (I, L, R)) (hi : i < tPn T) (hat : at_ + left ≤ 6) (e1 : a = iI (i : Int)) (e2 : b = iI (at_ : Int)) (e3 : c = iI (left : Int))
    (hQ : ∀ I' q, mf y T (I', L, R) → mfo y I L I' L → I' y = I y → (∀ j, j < at_ → I' (y + 1781) j = I (y + 1781) j) → csR y at_ left T i I' q → Q (.inl (some (zi q))) (I', L, R)), zS 203 d [zr (some y), zi a, zi b, zi c] (I, L, R) Q
  | 0, d, at_, i, T, I, Q, a, b, c, hd, h, hi, hat, e1, e2, e3, hQ => by
    subst e1; subst e2; subst e3
    have hM := h.2.1
    have k0 : R.2.1 y = some (7, 0) := hM.1
    obtain ⟨h4, hz, w1, w2, w3, w4, w5⟩ := m_pz h hi
    have p5 : R.1 y 5 = some (y + 46) := (hM.2.1 5 (by decide)).1; have k5 : R.2.1 (y + 46) = some (25, 4) := (hM.2.1 5 (by decide)).2; have q5 : R.1 (y + 46) (i) = some (y + 47 + i) := (hM.2.2.2.2.1 (i) (by omega)).1.trans (congrArg some (by omega)); have j5 : R.2.1 (y + 47 + i) = some (20, 10) := (congrArg R.2.1 (by omega)).trans (hM.2.2.2.2.1 (i) (by omega)).2
    refine zW.gbf [] rfl rfl rfl (by omega) trivial (by simp (disch := omega) only [eq_self, not_true_eq_false, not_false_eq_true, upI_same, upL_same, upI_ne, upL_ne, iI_ixN, zI_mk, zL_mk, zP_mk, zK_mk, zN_mk, zwI_up, zwL_up, zg_some, Nat.reduceMod, Nat.reduceDiv, zcn_I, iI_add, iI_sub, iI_mul, iI_neg, iI_lt, iI_le, iI_eq, iI_lt0, iI_le0, iI_gt0, iI_ge0, iI_eq0] <;> omega) ?_
    refine zW.gz [] rfl rfl rfl (by omega) (by simp (disch := omega) only [true_or, or_true, eq_self, Option.some.injEq, Prod.mk.injEq, zall_0, zall_1, zall_2, zob_iff, zar_iff, zis_iff, zkIs_some, zkHas_some, iI_vp, z01_I, z01_bz, zch_I, true_and, and_true, or_false, false_or, and_self, upI_same, upL_same, upI_ne, upL_ne, iI_ixN, zI_mk, zL_mk, zP_mk, zK_mk, zN_mk, zwI_up, zwL_up, zg_some, Nat.reduceMod, Nat.reduceDiv, zcn_I, iI_add, iI_sub, iI_mul, iI_neg, iI_lt, iI_le, iI_eq, iI_lt0, iI_le0, iI_gt0, iI_ge0, iI_eq0, k0, p5, k5] <;> omega) ⟨_, rfl, k0⟩ rfl rfl (by decide +kernel) (by decide +kernel) ?_
    simp (disch := omega) only [upI_same, upL_same, upI_ne, upL_ne, iI_ixN, zI_mk, zL_mk, zP_mk, zK_mk, zN_mk, zwI_up, zwL_up, zg_some, Nat.reduceMod, Nat.reduceDiv, p5, q5]
    refine solvB_ok (f := pzS (tPz T i)) (by omega) h hi rfl j5 w5 hz.2.2.2.2.2.2.2.2 (fun q hq => ?_)
    refine zW.gr [] rfl rfl rfl (by omega) trivial (tru_01 hq) ?_
    refine hQ I q h mfo_rf rfl (fun _ _ => rfl) ?_
    rcases hq with ⟨g, rfl⟩ | ⟨g, rfl⟩
    · exact Or.inl ⟨[], if_pos (dc_t.mpr g), rfl, fun j hj => absurd hj (Nat.not_lt_zero j)⟩
    · exact Or.inr ⟨if_neg (fun q => g (dc_t.mp q)), rfl⟩
  | left + 1, d, at_, i, T, I, Q, a, b, c, hd, h, hi, hat, e1, e2, e3, hQ => by
    subst e1; subst e2; subst e3
    have hM := h.2.1
    have k0 : R.2.1 y = some (7, 0) := hM.1
    obtain ⟨h4, hz, -⟩ := m_pz h hi
    have hr4 := hz.2.2.1
    obtain ⟨w, hw⟩ : ∃ w, tPz T i = w := ⟨_, rfl⟩
    obtain ⟨G, hG⟩ : ∃ G : Nat → Option (List Nat), (fun a => srch (pzT w) (pzC w) (2 * pzR w) left (fun p => pzC w (pzS w (pzT w a p)))) = G := ⟨_, rfl⟩
    have eS : srch (pzT w) (pzC w) (2 * pzR w) (left + 1) (fun p => pzC w (pzS w p)) = fsm G (2 * pzR w) 0 := by
      rw [← hG]
      rfl
    have lp : ∀ k a, a + k = 2 * pzR w → fsm G (2 * pzR w) 0 = fsm G k a → ∀ (I1 : Nat → Nat → Int32) (x4 : Int32) (v5 : Option zV), mf y T (I1, L, R) → mfo y I L I1 L → I1 y = I y → (∀ j, j < at_ → I1 (y + 1781) j = I (y + 1781) j) → x4 = iI (a : Int) → zW 203 d 0 0 19 [some (zr (some y)), some (zi (iI (i : Int))), some (zi (iI (at_ : Int))), some (zi (iI ((left + 1 : Nat) : Int))), some (zi x4), v5] [] (I1, L, R) Q := by
      intro k
      induction k with
      | zero =>
        intro a ha hf I1 x4 v5 m1 f1 t1 j1 e4
        subst e4
        obtain ⟨-, hz, w1, w2, w3, w4, w5⟩ := m_pz m1 hi
        rw [hw] at w2 hr4
        have p2 : R.1 y 2 = some (y + 3) := (hM.2.1 2 (by decide)).1; have k2 : R.2.1 (y + 3) = some (20, 4) := (hM.2.1 2 (by decide)).2
        refine zW.gbt [] rfl rfl rfl (by omega) (by simp (disch := omega) only [true_or, or_true, eq_self, Option.some.injEq, Prod.mk.injEq, zall_0, zall_1, zall_2, zob_iff, zar_iff, zis_iff, zkIs_some, zkHas_some, iI_vp, z01_I, z01_bz, zch_I, true_and, and_true, or_false, false_or, and_self, upI_same, upL_same, upI_ne, upL_ne, iI_ixN, zI_mk, zL_mk, zP_mk, zK_mk, zN_mk, zwI_up, zwL_up, zg_some, Nat.reduceMod, Nat.reduceDiv, zcn_I, iI_add, iI_sub, iI_mul, iI_neg, iI_lt, iI_le, iI_eq, iI_lt0, iI_le0, iI_gt0, iI_ge0, iI_eq0, k0, p2, k2] <;> omega) (by simp (disch := omega) only [eq_self, not_true_eq_false, not_false_eq_true, upI_same, upL_same, upI_ne, upL_ne, iI_ixN, zI_mk, zL_mk, zP_mk, zK_mk, zN_mk, zwI_up, zwL_up, zg_some, Nat.reduceMod, Nat.reduceDiv, zcn_I, iI_add, iI_sub, iI_mul, iI_neg, iI_lt, iI_le, iI_eq, iI_lt0, iI_le0, iI_gt0, iI_ge0, iI_eq0, p2, w2] <;> omega) ?_
        refine zW.gr [] rfl rfl rfl (by omega) trivial z01c0 ?_
        refine hQ I1 _ m1 f1 t1 j1 (Or.inr ⟨?_, zcn_I _⟩)
        rw [hw, eS, hf]
        rfl
      | succ k ih =>
        intro a ha hf I1 x4 v5 m1 f1 t1 j1 e4
        subst e4
        obtain ⟨-, hz, w1, w2, w3, w4, w5⟩ := m_pz m1 hi
        rw [hw] at w2 hr4
        have ha2 : a < 2 * pzR (tPz T i) := by rw [hw]; omega
        have p2 : R.1 y 2 = some (y + 3) := (hM.2.1 2 (by decide)).1; have k2 : R.2.1 (y + 3) = some (20, 4) := (hM.2.1 2 (by decide)).2; have p16 : R.1 y 16 = some (y + 1781) := (hM.2.1 16 (by decide)).1; have k16 : R.2.1 (y + 1781) = some (20, 6) := (hM.2.1 16 (by decide)).2
        refine zW.gbf [] rfl rfl rfl (by omega) (by simp (disch := omega) only [true_or, or_true, eq_self, Option.some.injEq, Prod.mk.injEq, zall_0, zall_1, zall_2, zob_iff, zar_iff, zis_iff, zkIs_some, zkHas_some, iI_vp, z01_I, z01_bz, zch_I, true_and, and_true, or_false, false_or, and_self, upI_same, upL_same, upI_ne, upL_ne, iI_ixN, zI_mk, zL_mk, zP_mk, zK_mk, zN_mk, zwI_up, zwL_up, zg_some, Nat.reduceMod, Nat.reduceDiv, zcn_I, iI_add, iI_sub, iI_mul, iI_neg, iI_lt, iI_le, iI_eq, iI_lt0, iI_le0, iI_gt0, iI_ge0, iI_eq0, k0, p2, k2] <;> omega) (by simp (disch := omega) only [eq_self, not_true_eq_false, not_false_eq_true, upI_same, upL_same, upI_ne, upL_ne, iI_ixN, zI_mk, zL_mk, zP_mk, zK_mk, zN_mk, zwI_up, zwL_up, zg_some, Nat.reduceMod, Nat.reduceDiv, zcn_I, iI_add, iI_sub, iI_mul, iI_neg, iI_lt, iI_le, iI_eq, iI_lt0, iI_le0, iI_gt0, iI_ge0, iI_eq0, p2, w2] <;> omega) ?_
        refine zW.gz [] rfl rfl rfl (by omega) trivial ⟨_, rfl, k0⟩ rfl rfl (by decide +kernel) (by decide +kernel) ?_
        refine turned_ok (a := a) (by omega) m1 hi ha2 rfl rfl (fun I2 g1 g2 g3 g4 => ?_)
        have hi2 : i < tPn (tSetP T i (pzSt (tPz T i) (fun p => pzS (tPz T i) (pzT (tPz T i) a p)))) := hi
        have eP : tPz (tSetP T i (pzSt (tPz T i) (fun p => pzS (tPz T i) (pzT (tPz T i) a p)))) i = pzSt (tPz T i) (fun p => pzS (tPz T i) (pzT (tPz T i) a p)) := tPz_s
        have s2 : scr y I2 L (upI I2 (y + 1781) at_ (iI (a : Int))) L := ⟨fun q hq => upI_row (fun e => hq (by unfold scA; omega)), fun _ _ _ _ => by rw [upI_row (by omega)], fun _ _ => rfl⟩
        have g1' : mf y (tSetP T i (pzSt (tPz T i) (fun p => pzS (tPz T i) (pzT (tPz T i) a p)))) (upI I2 (y + 1781) at_ (iI (a : Int)), L, R) := mf_scr g1 s2
        refine zW.gz [] rfl rfl rfl (by omega) (by simp (disch := omega) only [true_or, or_true, eq_self, Option.some.injEq, Prod.mk.injEq, zall_0, zall_1, zall_2, zob_iff, zar_iff, zis_iff, zkIs_some, zkHas_some, iI_vp, z01_I, z01_bz, zch_I, true_and, and_true, or_false, false_or, and_self, upI_same, upL_same, upI_ne, upL_ne, iI_ixN, zI_mk, zL_mk, zP_mk, zK_mk, zN_mk, zwI_up, zwL_up, zg_some, Nat.reduceMod, Nat.reduceDiv, zcn_I, iI_add, iI_sub, iI_mul, iI_neg, iI_lt, iI_le, iI_eq, iI_lt0, iI_le0, iI_gt0, iI_ge0, iI_eq0, k0, p16, k16] <;> omega) ⟨_, rfl, k0⟩ rfl rfl (by decide +kernel) (by decide +kernel) ?_
        simp (disch := omega) only [upI_same, upL_same, upI_ne, upL_ne, iI_ixN, zI_mk, zL_mk, zP_mk, zK_mk, zN_mk, zwI_up, zwL_up, zg_some, Nat.reduceMod, Nat.reduceDiv, p16]
        refine mcs_ok left (at_ := at_ + 1) (by omega) g1' hi2 (by omega) rfl (by rw [zcn_I, iI_add]; rfl) (by rw [zcn_I, iI_sub]; exact iI_cg (by omega)) (fun I3 q n1 n2 n3 n4 n5 => ?_)
        obtain ⟨fl1, fl2⟩ := tn_fl hz ha2
        have hfl : ∀ a, a < 8 → fl a = if a % 2 = 0 then a + 1 else a - 1 := by decide
        have hfa := hfl a (by omega)
        have n5 : (∃ v, G a = some v ∧ q = iI 1 ∧ ∀ j, j < left → I3 (y + 1781) (at_ + 1 + j) = iI (nth v j : Int)) ∨ (G a = none ∧ q = iI 0) := by
          unfold csR at n5
          rw [eP, hw] at n5
          rw [← hG]
          exact n5
        have TT : tSetP (tSetP T i (pzSt (tPz T i) (fun p => pzS (tPz T i) (pzT (tPz T i) a p)))) i (pzSt (tPz (tSetP T i (pzSt (tPz T i) (fun p => pzS (tPz T i) (pzT (tPz T i) a p)))) i) (fun p => pzS (tPz (tSetP T i (pzSt (tPz T i) (fun p => pzS (tPz T i) (pzT (tPz T i) a p)))) i) (pzT (tPz (tSetP T i (pzSt (tPz T i) (fun p => pzS (tPz T i) (pzT (tPz T i) a p)))) i) (fl a) p))) = T := by
          rw [eP, tSetP_2]
          have e : (fun p => pzS (pzSt (tPz T i) (fun p => pzS (tPz T i) (pzT (tPz T i) a p))) (pzT (pzSt (tPz T i) (fun p => pzS (tPz T i) (pzT (tPz T i) a p))) (fl a) p)) = pzS (tPz T i) := funext fun p => by
            show pzS (tPz T i) (pzT (tPz T i) a (pzT (tPz T i) (fl a) p)) = _
            rw [fl2 p]
          rw [e]
          exact tSetP_id
        have em := mod_I (a := a) (b := 2) (by omega) (by omega) (by omega)
        have em : iI (a : Int) - iI (a : Int) / iI 2 * iI 2 = iI ((a % 2 : Nat) : Int) := em
        have n2' : ¬ iI 2 = 0 := by decide +kernel
        have BK : ∀ u : Int32, u = iI (fl a : Int) → zW 203 d 0 0 80 [some (zr (some y)), some (zi (iI (i : Int))), some (zi (iI (at_ : Int))), some (zi (iI ((left + 1 : Nat) : Int))), some (zi (iI (a : Int))), some (zi q)] [zi u, zi (iI (i : Int)), zr (some y)] (I3, L, R) Q := fun u hu => by
          refine zW.gz [] rfl rfl rfl (by omega) trivial ⟨_, rfl, k0⟩ rfl rfl (by decide +kernel) (by decide +kernel) ?_
          refine turned_ok (a := fl a) (by omega) n1 hi2 (by rw [eP]; exact fl1) rfl hu (fun I4 u1 u2 u3 u4 => ?_)
          rw [TT] at u1
          have f4 : mfo y I L I4 L := mfo_tr (mfo_tr f1 g2) (mfo_tr (scr_o s2) (mfo_tr n2 u2))
          have t4 : I4 y = I y := by rw [u3, n3, upI_row (by omega), g3, t1]
          have p4 : I4 (y + 1781) = I3 (y + 1781) := u4 _ (by omega) (by omega)
          have j4 : ∀ j, j < at_ → I4 (y + 1781) j = I (y + 1781) j := fun j hj => by
            rw [p4, n4 j (by omega), upI_ne (by omega), g4 _ (by omega) (by omega)]
            exact j1 j hj
          rcases n5 with ⟨v, hv, rfl, hj⟩ | ⟨hv, rfl⟩
          · refine zW.gbf [] rfl rfl rfl (by omega) trivial (by simp (disch := omega) only [eq_self, not_true_eq_false, not_false_eq_true, upI_same, upL_same, upI_ne, upL_ne, iI_ixN, zI_mk, zL_mk, zP_mk, zK_mk, zN_mk, zwI_up, zwL_up, zg_some, Nat.reduceMod, Nat.reduceDiv, zcn_I, iI_add, iI_sub, iI_mul, iI_neg, iI_lt, iI_le, iI_eq, iI_lt0, iI_le0, iI_gt0, iI_ge0, iI_eq0] <;> omega) ?_
            refine zW.gr [] rfl rfl rfl (by omega) (by simp (disch := omega) only [true_or, or_true, eq_self, Option.some.injEq, Prod.mk.injEq, zall_0, zall_1, zall_2, zob_iff, zar_iff, zis_iff, zkIs_some, zkHas_some, iI_vp, z01_I, z01_bz, zch_I, true_and, and_true, or_false, false_or, and_self, upI_same, upL_same, upI_ne, upL_ne, iI_ixN, zI_mk, zL_mk, zP_mk, zK_mk, zN_mk, zwI_up, zwL_up, zg_some, Nat.reduceMod, Nat.reduceDiv, zcn_I, iI_add, iI_sub, iI_mul, iI_neg, iI_lt, iI_le, iI_eq, iI_lt0, iI_le0, iI_gt0, iI_ge0, iI_eq0, k0, p16, k16] <;> omega) z01c1 ?_
            simp (disch := omega) only [upI_same, upL_same, upI_ne, upL_ne, iI_ixN, zI_mk, zL_mk, zP_mk, zK_mk, zN_mk, zwI_up, zwL_up, zg_some, Nat.reduceMod, Nat.reduceDiv, p16]
            have s5 : scr y I4 L (upI I4 (y + 1781) at_ (iI (a : Int))) L := ⟨fun q hq => upI_row (fun e => hq (by unfold scA; omega)), fun _ _ _ _ => by rw [upI_row (by omega)], fun _ _ => rfl⟩
            refine hQ _ _ (mf_scr u1 s5) (mfo_tr f4 (scr_o s5)) (by rw [upI_row (by omega)]; exact t4) (fun j hj => by rw [upI_ne (by omega)]; exact j4 j hj) (Or.inl ⟨a :: v, ?_, zcn_I _, fun j hj' => ?_⟩)
            · rw [hw, eS, hf]
              show (match G a with | some w => some (a :: w) | none => fsm G k (a + 1)) = _
              rw [hv]
            · cases j with
              | zero => exact upI_same _ _ _ _
              | succ j =>
                rw [upI_ne (by omega), p4, show at_ + (j + 1) = at_ + 1 + j by omega]
                exact hj j (by omega)
          · refine zW.gbt [] rfl rfl rfl (by omega) trivial (by simp (disch := omega) only [eq_self, not_true_eq_false, not_false_eq_true, upI_same, upL_same, upI_ne, upL_ne, iI_ixN, zI_mk, zL_mk, zP_mk, zK_mk, zN_mk, zwI_up, zwL_up, zg_some, Nat.reduceMod, Nat.reduceDiv, zcn_I, iI_add, iI_sub, iI_mul, iI_neg, iI_lt, iI_le, iI_eq, iI_lt0, iI_le0, iI_gt0, iI_ge0, iI_eq0] <;> omega) ?_
            refine zW.go [19] rfl (by omega) trivial ?_
            refine ih (a + 1) (by omega) ?_ I4 _ _ u1 f4 t4 j4 (by rw [zcn_I, iI_add]; rfl)
            rw [hf]
            show (match G a with | some w => some (a :: w) | none => fsm G k (a + 1)) = _
            rw [hv]
        refine zW.gb [] rfl rfl rfl (by omega) (by simp only [zcn_I, zall_1, n2', not_false_eq_true]) (fun h' => ?_) (fun h' => ?_) <;> rw [zcn_I, em] at h' <;> simp (disch := omega) only [zcn_I, iI_add, iI_sub, iI_mul, iI_neg, iI_lt, iI_le, iI_eq, iI_lt0, iI_le0, iI_gt0, iI_ge0, iI_eq0] at h'
        · refine zW.go [80] rfl (by omega) trivial (BK _ ?_)
          rw [zcn_I, iI_sub, hfa, if_neg (by omega)]
          exact iI_cg (by omega)
        · refine zW.go [80] rfl (by omega) trivial (BK _ ?_)
          rw [zcn_I, iI_add, hfa, if_pos (by omega)]
          rfl
    refine zW.gbt [] rfl rfl rfl (by omega) trivial (by simp (disch := omega) only [eq_self, not_true_eq_false, not_false_eq_true, upI_same, upL_same, upI_ne, upL_ne, iI_ixN, zI_mk, zL_mk, zP_mk, zK_mk, zN_mk, zwI_up, zwL_up, zg_some, Nat.reduceMod, Nat.reduceDiv, zcn_I, iI_add, iI_sub, iI_mul, iI_neg, iI_lt, iI_le, iI_eq, iI_lt0, iI_le0, iI_gt0, iI_ge0, iI_eq0] <;> omega) ?_
    refine zW.go [19] rfl (by omega) trivial ?_
    exact lp (2 * pzR w) 0 (Nat.zero_add _) rfl I _ _ h mfo_rf rfl (fun _ _ => rfl) (zcn_I _)
end MCAN
