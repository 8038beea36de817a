/-! take, spell, countRuns, ringsUsed. -/
theorem iI_max {a b : Int} (h1 : -2147483648 ≤ a) (h2 : a < 2147483648) (h3 : -2147483648 ≤ b) (h4 : b < 2147483648) : (if iI a < iI b then iI b else iI a) = iI (if a < b then b else a) := by
  by_cases h : a < b
  · rw [if_pos h, if_pos ((iI_lt h1 h2 h3 h4).mpr h)]
  · rw [if_neg h, if_neg (fun q => h ((iI_lt h1 h2 h3 h4).mp q))]
theorem iI_min {a b : Int} (h1 : -2147483648 ≤ a) (h2 : a < 2147483648) (h3 : -2147483648 ≤ b) (h4 : b < 2147483648) : (if iI b < iI a then iI b else iI a) = iI (if b < a then b else a) := by
  by_cases h : b < a
  · rw [if_pos h, if_pos ((iI_lt h3 h4 h1 h2).mpr h)]
  · rw [if_neg h, if_neg (fun q => h ((iI_lt h3 h4 h1 h2).mp q))]
theorem hf_I : ∀ t : Nat, t < 8 → iI (t : Int) >>> (iI 1 &&& 31) = iI ((t / 2 : Nat) : Int) := by decide +kernel
theorem mk1_sk {c : Nat} {w w' : wSt} (k : mk1 c w = some w') : w'.2.1.length ≤ w.2.1.length + 1 ∧ ((∀ q, q ∈ w.2.1 → q.1 < 65536) → c < 65536 → ∀ q, q ∈ w'.2.1 → q.1 < 65536) := by
  obtain ⟨l, stk, p, cr, cb⟩ := w
  unfold mk1 at k
  dsimp only at k ⊢
  split at k
  · obtain ⟨l', k1, rfl⟩ := Option.map_eq_some_iff.mp k
    exact ⟨Nat.le_succ _, fun h _ => h⟩
  split at k
  · split at k
    · obtain ⟨l', k1, rfl⟩ := Option.map_eq_some_iff.mp k
      exact ⟨Nat.le_succ _, fun h _ => h⟩
    · cases k
  split at k
  · split at k
    · cases k
      exact ⟨Nat.le_refl _, fun h hc q hq => (List.mem_cons.mp hq).elim (fun e => by rw [e]; exact hc) (h q)⟩
    · cases k
  split at k
  · unfold wBar at k
    split at k
    · rename_i o s m r p' _ _ e
      cases e
      split at k
      · cases k
        exact ⟨Nat.le_succ _, fun h _ q hq => (List.mem_cons.mp hq).elim (fun e => by rw [e]; show 124 < 65536; decide) (fun e => h q (List.mem_cons_of_mem _ e))⟩
      · cases k
    · cases k
  split at k
  · unfold wShA at k
    split at k
    · rename_i o s m r p' _ _ e
      cases e
      split at k
      · cases k
        exact ⟨by show r.length ≤ r.length + 1 + 1; omega, fun h _ q hq => h q (List.mem_cons_of_mem _ hq)⟩
      · cases k
    · cases k
  split at k
  · unfold wShB at k
    split at k
    · rename_i o s m r p' _ _ e
      cases e
      split at k
      · obtain ⟨l', k1, rfl⟩ := Option.map_eq_some_iff.mp k
        exact ⟨by show r.length ≤ r.length + 1 + 1; omega, fun h _ q hq => h q (List.mem_cons_of_mem _ hq)⟩
      · cases k
    · cases k
  split at k
  · split at k
    · cases k
      exact ⟨Nat.le_succ _, fun h _ => h⟩
    · cases k
  · cases k
theorem take_sw {c : Nat} (hc : c < 65536) : ((43 : Int) + Op.lookupswitch.offset [(45, 82), (60, 57), (62, 68), (91, 57), (93, 75), (124, 63)] 87 (iI (c : Int)).toInt).toNat = if c = 45 then 125 else if c = 60 then 100 else if c = 62 then 111 else if c = 91 then 100 else if c = 93 then 118 else if c = 124 then 106 else 130 := by
  rw [iI_toInt (by omega) (by omega)]
  simp only [Op.lookupswitch.offset_cons, Op.lookupswitch.offset_nil]
  repeat' split
  all_goals omega
section WORD4
variable {d w : Nat} {I : Nat → Nat → Int32} {L : Nat → Nat → Int64} {R : zRt} {Q : zO → zM → Prop}
theorem take_ok {st : wSt} {c : Nat} {x : Int32} (hd : 4 ≤ d) (hW : WL w R) (e : x = iI (c : Int)) (hc : c < 65536) (hr : wR w I st) (hw : wOK st) (hk : st.2.1.length ≤ 30) (ho : ∀ q, q ∈ st.2.1 → q.1 < 65536)
    (h1 : ∀ st', mk1 c st = some st' → ∀ I', wfr w I I' → wR w I' st' → Q (.inl (some (zi (iI 1)))) (I', L, R))
    (h0 : mk1 c st = none → ∀ I', wfr w I I' → Q (.inl (some (zi (iI 0)))) (I', L, R)) : zS 86 d [zr (some w), zi x] (I, L, R) Q := by
  subst e
  have hr' := hr
  have hw' := hw
  obtain ⟨l, stk, p, cr, cb⟩ := st
  obtain ⟨r1, r2, r3, r4, r5, r6⟩ := hr'
  obtain ⟨w1, w2, w3, w4⟩ := hw'
  dsimp only at r1 r2 r3 r4 r5 r6 hk ho w1 w2 w3 w4
  have hW' := hW
  obtain ⟨k0, p0, p1, p2, p3, p4, k1, k2, k3, k4, k5⟩ := hW'
  have r1' := r1.1
  unfold mk1 at h1 h0
  dsimp only at h1 h0
  refine zW.gz [] rfl rfl rfl (by omega) trivial trivial rfl rfl (Nat.le_refl _) (Nat.le_refl _) ?_
  refine isLetter_ok (n := (c : Int)) (by omega) rfl (by omega) (by omega) (fun g => ?_) (fun g => ?_)
  · rw [if_pos (by omega)] at h1 h0
    refine zW.gbf [] rfl rfl rfl (by omega) trivial ?_ (zW.gz [] rfl rfl rfl (by omega) ?_ ?_ rfl rfl (Nat.le_refl _) (Nat.le_refl _) ?_)
    · exact (by simp (disch := omega) only [eq_self, not_true_eq_false, not_false_eq_true, upI_same, upL_same, upI_ne, upL_ne, iI_ixN, zI_mk, zL_mk, zP_mk, zK_mk, zN_mk, zwI_up, zwL_up, zg_some, Nat.reduceMod, Nat.reduceDiv, zcn_I, iI_add, iI_sub, iI_mul, iI_neg, iI_lt, iI_le, iI_eq, iI_lt0, iI_le0, iI_gt0, iI_ge0, iI_eq0] <;> omega)
    · exact (by simp (disch := omega) only [true_or, or_true, eq_self, Option.some.injEq, Prod.mk.injEq, zall_0, zall_1, zall_2, zob_iff, zar_iff, zis_iff, zkIs_some, zkHas_some, iI_vp, z01_I, z01_bz, zch_I, true_and, and_true, or_false, false_or, and_self, upI_same, upL_same, upI_ne, upL_ne, iI_ixN, zI_mk, zL_mk, zP_mk, zK_mk, zN_mk, zwI_up, zwL_up, zg_some, Nat.reduceMod, Nat.reduceDiv, zcn_I, iI_add, iI_sub, iI_mul, iI_neg, iI_lt, iI_le, iI_eq, iI_lt0, iI_le0, iI_gt0, iI_ge0, iI_eq0, k0] <;> omega)
    · exact ⟨_, rfl, k0⟩
    · simp (disch := omega) only [upI_same, upL_same, upI_ne, upL_ne, iI_ixN, zI_mk, zL_mk, zP_mk, zK_mk, zN_mk, zwI_up, zwL_up, zg_some, Nat.reduceMod, Nat.reduceDiv, zcn_I, iI_add, iI_sub, iI_mul, iI_neg, iI_lt, iI_le, iI_eq, iI_lt0, iI_le0, iI_gt0, iI_ge0, iI_eq0, r1']
      refine beginTail_ok (by omega) hW ?_
      refine zW.gz [] rfl rfl rfl (by omega) trivial ?_ rfl rfl (Nat.le_refl _) (Nat.le_refl _) ?_
      · exact ⟨_, rfl, k0⟩
      · have f0 : wfr w I (upI (upI (upI I w 8 (iI (l.length : Int))) w 9 (iI 1)) w 10 (iI 1)) := by
          refine ⟨fun b q1 q2 => ?_, ?_⟩
          · rw [upI_row q1, upI_row q1, upI_row q1]
          · simp (disch := omega) only [upI_same, upL_same, upI_ne, upL_ne, iI_ixN, zI_mk, zL_mk, zP_mk, zK_mk, zN_mk, zwI_up, zwL_up, zg_some, Nat.reduceMod, Nat.reduceDiv, zcn_I, iI_add, iI_sub, iI_mul, iI_neg, iI_lt, iI_le, iI_eq, iI_lt0, iI_le0, iI_gt0, iI_ge0, iI_eq0]
        refine add_ok (t := 2 * (c - 65)) (l := l) (by omega) hW ?_ (lR_fr r1 ?_ ?_) w1 (fun q I' f1 m1 => ?_) (fun q => ?_)
        · exact (by simp (disch := omega) only [eq_self, not_true_eq_false, not_false_eq_true, upI_same, upL_same, upI_ne, upL_ne, iI_ixN, zI_mk, zL_mk, zP_mk, zK_mk, zN_mk, zwI_up, zwL_up, zg_some, Nat.reduceMod, Nat.reduceDiv, zcn_I, iI_add, iI_sub, iI_mul, iI_neg, iI_lt, iI_le, iI_eq, iI_lt0, iI_le0, iI_gt0, iI_ge0, iI_eq0] <;> omega)
        · simp (disch := omega) only [upI_same, upL_same, upI_ne, upL_ne, iI_ixN, zI_mk, zL_mk, zP_mk, zK_mk, zN_mk, zwI_up, zwL_up, zg_some, Nat.reduceMod, Nat.reduceDiv, zcn_I, iI_add, iI_sub, iI_mul, iI_neg, iI_lt, iI_le, iI_eq, iI_lt0, iI_le0, iI_gt0, iI_ge0, iI_eq0]
        · rw [upI_row (by omega), upI_row (by omega), upI_row (by omega)]
        · refine zW.gr [] rfl rfl rfl (by omega) trivial z01_1 ?_
          refine h1 _ (by rw [spA_of (by show l.length + 1 ≤ 120; omega)]; rfl) _ (wfr_tr f0 (wfr_of f1)) ⟨m1, ?_, skR_l f1 ?_, fun _ => ?_, ?_, ?_⟩
          · rw [f1.2 7 (by decide)]
            simp (disch := omega) only [upI_same, upL_same, upI_ne, upL_ne, iI_ixN, zI_mk, zL_mk, zP_mk, zK_mk, zN_mk, zwI_up, zwL_up, zg_some, Nat.reduceMod, Nat.reduceDiv, zcn_I, iI_add, iI_sub, iI_mul, iI_neg, iI_lt, iI_le, iI_eq, iI_lt0, iI_le0, iI_gt0, iI_ge0, iI_eq0]
            exact r2
          · refine skR_cg (fun i hi => ?_) r3
            simp (disch := omega) only [upI_same, upL_same, upI_ne, upL_ne, iI_ixN, zI_mk, zL_mk, zP_mk, zK_mk, zN_mk, zwI_up, zwL_up, zg_some, Nat.reduceMod, Nat.reduceDiv, zcn_I, iI_add, iI_sub, iI_mul, iI_neg, iI_lt, iI_le, iI_eq, iI_lt0, iI_le0, iI_gt0, iI_ge0, iI_eq0, and_self]
          · rw [f1.2 8 (by decide)]
            simp (disch := omega) only [upI_same, upL_same, upI_ne, upL_ne, iI_ixN, zI_mk, zL_mk, zP_mk, zK_mk, zN_mk, zwI_up, zwL_up, zg_some, Nat.reduceMod, Nat.reduceDiv, zcn_I, iI_add, iI_sub, iI_mul, iI_neg, iI_lt, iI_le, iI_eq, iI_lt0, iI_le0, iI_gt0, iI_ge0, iI_eq0]
          · rw [f1.2 9 (by decide)]
            simp (disch := omega) only [upI_same, upL_same, upI_ne, upL_ne, iI_ixN, zI_mk, zL_mk, zP_mk, zK_mk, zN_mk, zwI_up, zwL_up, zg_some, Nat.reduceMod, Nat.reduceDiv, zcn_I, iI_add, iI_sub, iI_mul, iI_neg, iI_lt, iI_le, iI_eq, iI_lt0, iI_le0, iI_gt0, iI_ge0, iI_eq0]
            rfl
          · rw [f1.2 10 (by decide)]
            simp (disch := omega) only [upI_same, upL_same, upI_ne, upL_ne, iI_ixN, zI_mk, zL_mk, zP_mk, zK_mk, zN_mk, zwI_up, zwL_up, zg_some, Nat.reduceMod, Nat.reduceDiv, zcn_I, iI_add, iI_sub, iI_mul, iI_neg, iI_lt, iI_le, iI_eq, iI_lt0, iI_le0, iI_gt0, iI_ge0, iI_eq0]
            rfl
        · refine zW.gr [] rfl rfl rfl (by omega) trivial z01_0 ?_
          exact h0 (by rw [spA_no (by show 120 < l.length + 1; omega)]; rfl) _ f0
  · rw [if_neg (by omega)] at h1 h0
    refine zW.gbt [] rfl rfl rfl (by omega) trivial ?_ (zW.gz [] rfl rfl rfl (by omega) trivial trivial rfl rfl (Nat.le_refl _) (Nat.le_refl _) ?_)
    · exact (by simp (disch := omega) only [eq_self, not_true_eq_false, not_false_eq_true, upI_same, upL_same, upI_ne, upL_ne, iI_ixN, zI_mk, zL_mk, zP_mk, zK_mk, zN_mk, zwI_up, zwL_up, zg_some, Nat.reduceMod, Nat.reduceDiv, zcn_I, iI_add, iI_sub, iI_mul, iI_neg, iI_lt, iI_le, iI_eq, iI_lt0, iI_le0, iI_gt0, iI_ge0, iI_eq0] <;> omega)
    · refine isDigit_ok (n := (c : Int)) (by omega) rfl (by omega) (by omega) (fun g2 => ?_) (fun g2 => ?_)
      · rw [if_pos (by omega)] at h1 h0
        refine zW.gbf [] rfl rfl rfl (by omega) trivial ?_ (zW.gz [] rfl rfl rfl (by omega) trivial ?_ rfl rfl (Nat.le_refl _) (Nat.le_refl _) ?_)
        · exact (by simp (disch := omega) only [eq_self, not_true_eq_false, not_false_eq_true, upI_same, upL_same, upI_ne, upL_ne, iI_ixN, zI_mk, zL_mk, zP_mk, zK_mk, zN_mk, zwI_up, zwL_up, zg_some, Nat.reduceMod, Nat.reduceDiv, zcn_I, iI_add, iI_sub, iI_mul, iI_neg, iI_lt, iI_le, iI_eq, iI_lt0, iI_le0, iI_gt0, iI_ge0, iI_eq0] <;> omega)
        · exact ⟨_, rfl, k0⟩
        · have f0 : wfr w I (upI I w 9 (iI 0)) := wfr_up (Or.inl ⟨rfl, by decide⟩)
          refine repeat_ok (p := p) (k := c - 48) (l := l) (cr := cr) (by omega) hW ?_ r1 w1 w2 (by omega) (by omega) r5 (fun q => ⟨r4 (Or.inl q), w4 (Or.inl q)⟩) (fun q => ?_) (fun q l' g3 I' f1 m1 => ?_) (fun q g3 I' f1 => ?_)
          · exact (by simp (disch := omega) only [eq_self, not_true_eq_false, not_false_eq_true, upI_same, upL_same, upI_ne, upL_ne, iI_ixN, zI_mk, zL_mk, zP_mk, zK_mk, zN_mk, zwI_up, zwL_up, zg_some, Nat.reduceMod, Nat.reduceDiv, zcn_I, iI_add, iI_sub, iI_mul, iI_neg, iI_lt, iI_le, iI_eq, iI_lt0, iI_le0, iI_gt0, iI_ge0, iI_eq0] <;> omega)
          · refine zW.gr [] rfl rfl rfl (by omega) trivial z01_0 ?_
            exact h0 (by rw [if_neg (by rw [q]; decide)]) _ (wfr_rf _ _)
          · refine zW.gr [] rfl rfl rfl (by omega) trivial z01_1 ?_
            rw [if_pos q, show c - 49 = c - 48 - 1 by omega, g3] at h1
            refine h1 _ rfl _ (wfr_tr f0 (wfr_of f1)) ⟨m1, ?_, skR_l f1 ?_, fun _ => ?_, ?_, ?_⟩
            · rw [f1.2 7 (by decide)]
              simp (disch := omega) only [upI_same, upL_same, upI_ne, upL_ne, iI_ixN, zI_mk, zL_mk, zP_mk, zK_mk, zN_mk, zwI_up, zwL_up, zg_some, Nat.reduceMod, Nat.reduceDiv, zcn_I, iI_add, iI_sub, iI_mul, iI_neg, iI_lt, iI_le, iI_eq, iI_lt0, iI_le0, iI_gt0, iI_ge0, iI_eq0]
              exact r2
            · refine skR_cg (fun i hi => ?_) r3
              simp (disch := omega) only [upI_same, upL_same, upI_ne, upL_ne, iI_ixN, zI_mk, zL_mk, zP_mk, zK_mk, zN_mk, zwI_up, zwL_up, zg_some, Nat.reduceMod, Nat.reduceDiv, zcn_I, iI_add, iI_sub, iI_mul, iI_neg, iI_lt, iI_le, iI_eq, iI_lt0, iI_le0, iI_gt0, iI_ge0, iI_eq0, and_self]
            · rw [f1.2 8 (by decide)]
              simp (disch := omega) only [upI_same, upL_same, upI_ne, upL_ne, iI_ixN, zI_mk, zL_mk, zP_mk, zK_mk, zN_mk, zwI_up, zwL_up, zg_some, Nat.reduceMod, Nat.reduceDiv, zcn_I, iI_add, iI_sub, iI_mul, iI_neg, iI_lt, iI_le, iI_eq, iI_lt0, iI_le0, iI_gt0, iI_ge0, iI_eq0]
              exact r4 (Or.inl q)
            · rw [f1.2 9 (by decide)]
              simp (disch := omega) only [upI_same, upL_same, upI_ne, upL_ne, iI_ixN, zI_mk, zL_mk, zP_mk, zK_mk, zN_mk, zwI_up, zwL_up, zg_some, Nat.reduceMod, Nat.reduceDiv, zcn_I, iI_add, iI_sub, iI_mul, iI_neg, iI_lt, iI_le, iI_eq, iI_lt0, iI_le0, iI_gt0, iI_ge0, iI_eq0]
              rfl
            · rw [f1.2 10 (by decide)]
              simp (disch := omega) only [upI_same, upL_same, upI_ne, upL_ne, iI_ixN, zI_mk, zL_mk, zP_mk, zK_mk, zN_mk, zwI_up, zwL_up, zg_some, Nat.reduceMod, Nat.reduceDiv, zcn_I, iI_add, iI_sub, iI_mul, iI_neg, iI_lt, iI_le, iI_eq, iI_lt0, iI_le0, iI_gt0, iI_ge0, iI_eq0]
              exact r6
          · refine zW.gr [] rfl rfl rfl (by omega) trivial z01_0 ?_
            rw [if_pos q, show c - 49 = c - 48 - 1 by omega, g3] at h0
            exact h0 rfl _ (wfr_tr f0 (wfr_of f1))
      · rw [if_neg (by omega)] at h1 h0
        refine zW.gbt [] rfl rfl rfl (by omega) trivial ?_ (zW.gs [] rfl rfl rfl (by omega) trivial ?_)
        · exact (by simp (disch := omega) only [eq_self, not_true_eq_false, not_false_eq_true, upI_same, upL_same, upI_ne, upL_ne, iI_ixN, zI_mk, zL_mk, zP_mk, zK_mk, zN_mk, zwI_up, zwL_up, zg_some, Nat.reduceMod, Nat.reduceDiv, zcn_I, iI_add, iI_sub, iI_mul, iI_neg, iI_lt, iI_le, iI_eq, iI_lt0, iI_le0, iI_gt0, iI_ge0, iI_eq0] <;> omega)
        · have hsw := take_sw hc
          by_cases c1 : c = 60 ∨ c = 91
          · rw [if_pos c1] at h1 h0
            have ht : (if c = 45 then 125 else if c = 60 then 100 else if c = 62 then 111 else if c = 91 then 100 else if c = 93 then 118 else if c = 124 then 106 else 130) = 100 := by rcases c1 with rfl | rfl <;> decide
            rw [ht] at hsw
            rw [show ((((43 : Nat) : Int) + Op.lookupswitch.offset _ _ _).toNat) = 100 from hsw]
            refine zW.gz [] rfl rfl rfl (by omega) trivial ?_ rfl rfl (Nat.le_refl _) (Nat.le_refl _) ?_
            · exact ⟨_, rfl, k0⟩
            · refine open_ok (by omega) hW rfl hc hr w1 hk (by omega) (fun q I' f1 m1 => ?_) (fun q => ?_)
              · refine zW.gr [] rfl rfl rfl (by omega) trivial z01_1 ?_
                exact h1 _ (if_pos q) _ f1 m1
              · refine zW.gr [] rfl rfl rfl (by omega) trivial z01_0 ?_
                exact h0 (if_neg q) _ (wfr_rf _ _)
          · rw [if_neg c1] at h1 h0
            by_cases c2 : c = 124
            · subst c2
              rw [if_pos rfl] at h1 h0
              rw [show ((((43 : Nat) : Int) + Op.lookupswitch.offset _ _ _).toNat) = 106 from hsw]
              refine zW.gz [] rfl rfl rfl (by omega) trivial ?_ rfl rfl (Nat.le_refl _) (Nat.le_refl _) ?_
              · exact ⟨_, rfl, k0⟩
              · refine divide_ok (by omega) hW hr w1 hk ho (fun st' q I' f1 m1 => ?_) (fun q => ?_)
                · refine zW.gr [] rfl rfl rfl (by omega) trivial z01_1 ?_
                  exact h1 _ q _ f1 m1
                · refine zW.gr [] rfl rfl rfl (by omega) trivial z01_0 ?_
                  exact h0 q _ (wfr_rf _ _)
            · rw [if_neg c2] at h1 h0
              by_cases c3 : c = 62
              · subst c3
                rw [if_pos rfl] at h1 h0
                rw [show ((((43 : Nat) : Int) + Op.lookupswitch.offset _ _ _).toNat) = 111 from hsw]
                refine zW.gz [] rfl rfl rfl (by omega) trivial ?_ rfl rfl (Nat.le_refl _) (Nat.le_refl _) ?_
                · exact ⟨_, rfl, k0⟩
                · refine shut_ok (q := 60) (by omega) hW (zcn_I 60) (Or.inl rfl) hr hw hk ho (fun st' q I' f1 m1 => ?_) (fun q I' f1 => ?_)
                  · refine zW.gr [] rfl rfl rfl (by omega) trivial z01_1 ?_
                    exact h1 _ q _ f1 m1
                  · refine zW.gr [] rfl rfl rfl (by omega) trivial z01_0 ?_
                    exact h0 q _ f1
              · rw [if_neg c3] at h1 h0
                by_cases c4 : c = 93
                · subst c4
                  rw [if_pos rfl] at h1 h0
                  rw [show ((((43 : Nat) : Int) + Op.lookupswitch.offset _ _ _).toNat) = 118 from hsw]
                  refine zW.gz [] rfl rfl rfl (by omega) trivial ?_ rfl rfl (Nat.le_refl _) (Nat.le_refl _) ?_
                  · exact ⟨_, rfl, k0⟩
                  · refine shut_ok (q := 124) (by omega) hW (zcn_I 124) (Or.inr rfl) hr hw hk ho (fun st' q I' f1 m1 => ?_) (fun q I' f1 => ?_)
                    · refine zW.gr [] rfl rfl rfl (by omega) trivial z01_1 ?_
                      exact h1 _ q _ f1 m1
                    · refine zW.gr [] rfl rfl rfl (by omega) trivial z01_0 ?_
                      exact h0 q _ f1
                · rw [if_neg c4] at h1 h0
                  by_cases c5 : c = 45
                  · subst c5
                    rw [if_pos rfl] at h1 h0
                    rw [show ((((43 : Nat) : Int) + Op.lookupswitch.offset _ _ _).toNat) = 125 from hsw]
                    refine zW.gz [] rfl rfl rfl (by omega) trivial ?_ rfl rfl (Nat.le_refl _) (Nat.le_refl _) ?_
                    · exact ⟨_, rfl, k0⟩
                    · have f0 : wfr w I (upI (upI I w 9 (iI 0)) w 10 (iI 0)) := wfr_tr (wfr_up (Or.inl ⟨rfl, by decide⟩)) (wfr_up (Or.inl ⟨rfl, by decide⟩))
                      refine goBack_ok (p := p) (l := l) (cb := cb) (by omega) hW r1 w1 w2 r6 (fun q => ⟨r4 (Or.inr q), w4 (Or.inr q)⟩) (fun q => ?_) (fun q I' f1 m1 => ?_)
                      · refine zW.gr [] rfl rfl rfl (by omega) trivial z01_0 ?_
                        exact h0 (if_neg (by rw [q]; decide)) _ (wfr_rf _ _)
                      · refine zW.gr [] rfl rfl rfl (by omega) trivial z01_1 ?_
                        refine h1 _ (if_pos q) _ (wfr_tr f0 (wfr_of f1)) ⟨m1, ?_, skR_l f1 ?_, fun q => by simp at q, ?_, ?_⟩
                        · rw [f1.2 7 (by decide)]
                          simp (disch := omega) only [upI_same, upL_same, upI_ne, upL_ne, iI_ixN, zI_mk, zL_mk, zP_mk, zK_mk, zN_mk, zwI_up, zwL_up, zg_some, Nat.reduceMod, Nat.reduceDiv, zcn_I, iI_add, iI_sub, iI_mul, iI_neg, iI_lt, iI_le, iI_eq, iI_lt0, iI_le0, iI_gt0, iI_ge0, iI_eq0]
                          exact r2
                        · refine skR_cg (fun i hi => ?_) r3
                          simp (disch := omega) only [upI_same, upL_same, upI_ne, upL_ne, iI_ixN, zI_mk, zL_mk, zP_mk, zK_mk, zN_mk, zwI_up, zwL_up, zg_some, Nat.reduceMod, Nat.reduceDiv, zcn_I, iI_add, iI_sub, iI_mul, iI_neg, iI_lt, iI_le, iI_eq, iI_lt0, iI_le0, iI_gt0, iI_ge0, iI_eq0, and_self]
                        · rw [f1.2 9 (by decide)]
                          simp (disch := omega) only [upI_same, upL_same, upI_ne, upL_ne, iI_ixN, zI_mk, zL_mk, zP_mk, zK_mk, zN_mk, zwI_up, zwL_up, zg_some, Nat.reduceMod, Nat.reduceDiv, zcn_I, iI_add, iI_sub, iI_mul, iI_neg, iI_lt, iI_le, iI_eq, iI_lt0, iI_le0, iI_gt0, iI_ge0, iI_eq0]
                          rfl
                        · rw [f1.2 10 (by decide)]
                          simp (disch := omega) only [upI_same, upL_same, upI_ne, upL_ne, iI_ixN, zI_mk, zL_mk, zP_mk, zK_mk, zN_mk, zwI_up, zwL_up, zg_some, Nat.reduceMod, Nat.reduceDiv, zcn_I, iI_add, iI_sub, iI_mul, iI_neg, iI_lt, iI_le, iI_eq, iI_lt0, iI_le0, iI_gt0, iI_ge0, iI_eq0]
                          rfl
                  · rw [if_neg c5] at h0
                    have ht : (if c = 45 then 125 else if c = 60 then 100 else if c = 62 then 111 else if c = 91 then 100 else if c = 93 then 118 else if c = 124 then 106 else 130) = 130 := by
                      rw [if_neg (by omega), if_neg (by omega), if_neg (by omega), if_neg (by omega), if_neg (by omega), if_neg (by omega)]
                    rw [ht] at hsw
                    rw [show ((((43 : Nat) : Int) + Op.lookupswitch.offset _ _ _).toNat) = 130 from hsw]
                    refine zW.gr [] rfl rfl rfl (by omega) trivial z01c0 ?_
                    rw [zcn_I]
                    exact h0 rfl _ (wfr_rf _ _)
end WORD4
