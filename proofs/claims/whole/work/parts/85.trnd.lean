/-! The class makes rounds. -/
section TRND
variable {d x z : Nat} {pb rb : Nat → Nat} {T : tfT} {I : Nat → Nat → Int32} {L : Nat → Nat → Int64} {R : zRt} {Q : zO → zM → Prop}
def tNewR (T : tfT) (w : zRd) : tfT := (T.1, T.2.1, tRn T + 1, exb (tRd T) (tRn T) w, tDy T)
theorem tf_rnd {w : zRd} {b : Nat} {I' : Nat → Nat → Int32} {R' : zRt} (h : tf x z pb rb T (I, L, R)) (h8 : tRn T < 8) (hb : b = R.2.2) (f : rfr b I I') (g : zol b R R') (gN : R'.2.2 = b + 19) (hZ : RLy b R') (hw : rOK w) (hm : ∀ c, rMa w c = 0) (hR : rPR b I' w) : tf x z pb (exb rb (tRn T) b) (tNewR T w) (upI I' x 9 (iI ((tRn T + 1 : Nat) : Int)), L, pwR R' (x + 16) (tRn T) (some b)) ∧ tfr x z (I, L, R) (upI I' x 9 (iI ((tRn T + 1 : Nat) : Int)), L, pwR R' (x + 16) (tRn T) (some b)) := by
  obtain ⟨k1, ⟨y1, y2, y3⟩, k3, ⟨a1, a2⟩, ⟨b1, b2⟩, c, ⟨d1, d2⟩, ⟨e1, e2⟩, g9⟩ := h
  obtain ⟨l1, l2, l3, l4, l5⟩ := k3
  have l2' : z ≤ R.2.2 := l2
  have l3' : ∀ i, i < tPn T → z ≤ pb i ∧ pb i + 24 ≤ R.2.2 ∧ ∀ k, k < i → pb k + 24 ≤ pb i := l3
  have l4' : ∀ j, j < tRn T → z ≤ rb j ∧ rb j + 19 ≤ R.2.2 ∧ ∀ k, k < j → rb k + 19 ≤ rb j := l4
  have hI : ∀ a, a < b → a ≠ x → upI I' x 9 (iI ((tRn T + 1 : Nat) : Int)) a = I a := fun a q1 q2 => by
    rw [upI_row q2]
    exact f a (by omega)
  have hx : ∀ k, k ≠ 9 → upI I' x 9 (iI ((tRn T + 1 : Nat) : Int)) x k = I x k := fun k q => by
    rw [upI_ne (by omega)]
    exact congrFun (f x (by omega)) k
  have hP : ∀ a, a < b → a ≠ x + 16 → (pwR R' (x + 16) (tRn T) (some b)).1 a = R.1 a := fun a q1 q2 => by
    rw [pwR_row q2]
    exact (g a q1).1
  have hK : ∀ a, a < b → (pwR R' (x + 16) (tRn T) (some b)).2.1 a = R.2.1 a := fun a q1 => by
    rw [pwR_R]
    exact (g a q1).2
  refine ⟨⟨⟨k1.1, k1.2.1, k1.2.2.1, k1.2.2.2.1, ⟨by show tRn T + 1 ≤ 8; omega, fun j hj => ?_⟩, k1.2.2.2.2.2⟩, ⟨tFix_cg (fun a q1 q2 => hK a (by omega)) (fun a q1 q2 q3 q4 => hP a (by omega) q4) y1, fun i hi => ⟨?_, ZL_cg (fun a q1 q2 => ⟨hK a (by have := l3' i hi; omega), hP a (by have := l3' i hi; omega) (by have := l3' i hi; omega)⟩) (y2 i hi).2⟩, fun j hj => ?_⟩, ⟨l1, ?_, fun i hi => ?_, fun j hj => ?_, fun i j hi hj => ?_⟩, ⟨?_, ?_⟩, ⟨?_, fun i hi => ?_⟩, ⟨c.1, ?_, ?_, c.2.2.2⟩, ⟨?_, fun k hk => ?_⟩, ⟨upI_same _ _ _ _, fun j hj => ?_⟩, ?_⟩, ⟨fun a q1 q2 => ⟨?_, rfl, ?_, ?_⟩, ?_⟩⟩
  · show rOK (exb (tRd T) (tRn T) w j) ∧ ∀ c, tCn T ≤ c → c < 12 → rMa (exb (tRd T) (tRn T) w j) c = 0
    have hj' : j < tRn T + 1 := hj
    by_cases e : j = tRn T
    · rw [e, exb_s]
      exact ⟨hw, fun c _ _ => hm c⟩
    · rw [exb_o e]
      exact k1.2.2.2.2.1.2 j (by omega)
  · show (pwR R' (x + 16) (tRn T) (some b)).1 (x + 2) i = some (pb i)
    rw [hP _ (by omega) (by omega)]
    exact (y2 i hi).1
  · have hj' : j < tRn T + 1 := hj
    by_cases e : j = tRn T
    · rw [e, exb_s]
      refine ⟨?_, RLy_cg (fun a q1 q2 => ⟨?_, pwR_row (by omega)⟩) hZ⟩
      · show (pwR R' (x + 16) (tRn T) (some b)).1 (x + 16) (tRn T) = some b
        exact pwR_s _ _ _ _
      · rw [pwR_R]
    · have hj2 : j < tRn T := by omega
      rw [exb_o e]
      refine ⟨?_, RLy_cg (fun a q1 q2 => ⟨hK a (by have := l4' j hj2; omega), hP a (by have := l4' j hj2; omega) (by have := l4' j hj2; omega)⟩) (y3 j hj2).2⟩
      show (pwR R' (x + 16) (tRn T) (some b)).1 (x + 16) j = some (rb j)
      rw [pwR_o (by omega), (g (x + 16) (by omega)).1]
      exact (y3 j hj2).1
  · show z ≤ (pwR R' (x + 16) (tRn T) (some b)).2.2
    rw [pwR_R, gN]
    omega
  · show z ≤ pb i ∧ pb i + 24 ≤ (pwR R' (x + 16) (tRn T) (some b)).2.2 ∧ _
    rw [pwR_R, gN]
    have q := l3' i hi
    exact ⟨q.1, by omega, q.2.2⟩
  · have hj' : j < tRn T + 1 := hj
    show z ≤ exb rb (tRn T) b j ∧ exb rb (tRn T) b j + 19 ≤ (pwR R' (x + 16) (tRn T) (some b)).2.2 ∧ ∀ k, k < j → exb rb (tRn T) b k + 19 ≤ exb rb (tRn T) b j
    rw [pwR_R, gN]
    by_cases e : j = tRn T
    · rw [e, exb_s]
      refine ⟨by omega, Nat.le_refl _, fun k hk => ?_⟩
      rw [exb_o (by omega)]
      have := l4' k hk
      omega
    · have q := l4' j (by omega)
      rw [exb_o e]
      refine ⟨q.1, by omega, fun k hk => ?_⟩
      rw [exb_o (by omega)]
      exact q.2.2 k hk
  · have hj' : j < tRn T + 1 := hj
    have q := l3' i hi
    by_cases e : j = tRn T
    · rw [e, exb_s]
      omega
    · rw [exb_o e]
      exact l5 i j hi (by omega)
  · exact (hx 1 (by omega)).trans a1
  · show hl (upI I' x 9 _ (x + 1)) _
    rw [hI (x + 1) (by omega) (by omega)]
    exact a2
  · exact (hx 3 (by omega)).trans b1
  · exact zPR_fr (b2 i hi) (fun a q1 q2 => hI a (by have := l3' i hi; omega) (by have := l3' i hi; omega)) (fun a q1 q2 => rfl)
  · show upI I' x 9 _ (x + 3) 5 = _
    rw [hI (x + 3) (by omega) (by omega)]
    exact c.2.1
  · show hl (upI I' x 9 _ (x + 3 + 1)) _
    rw [hI (x + 3 + 1) (by omega) (by omega)]
    exact c.2.2.1
  · exact (hx 7 (by omega)).trans d1
  · show upI I' x 9 _ (x + 15) k = _
    rw [hI (x + 15) (by omega) (by omega)]
    exact d2 k hk
  · show rPR (exb rb (tRn T) b j) _ (exb (tRd T) (tRn T) w j)
    have hj' : j < tRn T + 1 := hj
    by_cases e : j = tRn T
    · rw [e, exb_s, exb_s]
      exact rPR_fr hR (fun a q1 q2 => upI_row (by omega))
    · have hj2 : j < tRn T := by omega
      rw [exb_o e, exb_o e]
      exact rPR_fr (e2 j hj2) (fun a q1 q2 => hI a (by have := l4' j hj2; omega) (by have := l4' j hj2; omega))
  · exact (hx 10 (by omega)).trans g9
  · exact hI a (by omega) (by omega)
  · exact hP a (by omega) (by omega)
  · exact hK a (by omega)
  · show R.2.2 ≤ (pwR R' (x + 16) (tRn T) (some b)).2.2
    rw [pwR_R, gN]
    omega
def isFm (v : Int) : Prop := v = 53 ∨ v = 51 ∨ v = 98 ∨ v = 102 ∨ v = 109
noncomputable def oRnd (T : tfT) (fm li cu : Int) : tRes := if dc (isFm fm ∧ (0 ≤ li ∧ li ≤ 999999) ∧ 0 ≤ cu ∧ cu ≤ 59999) then (if ¬ tRn T < 8 then (2, 0, T) else (0, (tRn T : Int), tNewR T (wNew fm.toNat li.toNat cu.toNat))) else (1, 0, T)
theorem round_ok {fm li cu : Int} {a b e : Int32} (hd : 9 ≤ d) (h : tfx x z T (I, L, R)) (e1 : a = iI fm) (e2 : b = iI li) (e3 : e = iI cu) (h1 : 0 ≤ fm) (h1' : fm < 65536) (h2 : i32 li) (h3 : i32 cu) (hQ : tP x z (I, L, R) (oRnd T fm li cu) [0, 2] eI Q) : zS 131 d [zr (some x), zi a, zi b, zi e] (I, L, R) Q := by
  subst e1; subst e2; subst e3
  have hT := h
  obtain ⟨pb, rb, hf⟩ := h
  have k0 := tf_k0 hf
  have p2 : R.1 x 8 = some (x + 16) := hf.2.1.1.2.2.2.2.2.2.1
  have kr : R.2.1 (x + 16) = some (28, 8) := hf.2.1.1.2.2.2.2.2.2.2.2.2.2.2.2
  have r1 : I x 9 = iI (tRn T : Int) := hf.2.2.2.2.2.2.2.1.1
  have hn := hf.1.2.2.2.2.1.1
  have hl1 : x + 17 ≤ z := hf.2.2.1.1
  have hl2 : z ≤ R.2.2 := hf.2.2.1.2.1
  unfold oRnd at hQ
  refine zW.gz [] rfl rfl rfl (by omega) trivial trivial rfl rfl (by decide +kernel) (by decide +kernel) ?_
  refine isFormat_ok (by omega) rfl h1 h1' (fun g1 => ?_) (fun g1 => ?_)
  · refine zW.gbt [] rfl rfl rfl (by omega) trivial (by simp (disch := omega) only [eq_self, not_true_eq_false, not_false_eq_true, upI_same, upL_same, upI_ne, upL_ne, iI_ixN, zI_mk, zL_mk, zP_mk, zK_mk, zN_mk, zwI_up, zwL_up, zg_some, Nat.reduceMod, Nat.reduceDiv, zcn_I, iI_add, iI_sub, iI_mul, iI_neg, iI_lt, iI_le, iI_eq, iI_lt0, iI_le0, iI_gt0, iI_ge0, iI_eq0] <;> omega) ?_
    refine zW.gc [] rfl rfl rfl (by omega) trivial trivial (by decide +kernel) (by decide +kernel) ?_
    refine chkN_ok (hi := 999999) (by omega) rfl (zcn_I _) ?_ h2 ⟨by omega, by omega⟩ ⟨by omega, by omega⟩ (fun hb N hN => ?_) (fun g3 g4 => ?_)
    · decide +kernel
    · exact tP_t hQ hT (if_neg (fun q => hb (dc_t.mp q).2.1)) hN
    refine zW.gc [] rfl rfl rfl (by omega) trivial trivial (by decide +kernel) (by decide +kernel) ?_
    refine chkN_ok (hi := 59999) (by omega) rfl (zcn_I _) ?_ h3 ⟨by omega, by omega⟩ ⟨by omega, by omega⟩ (fun hb N hN => ?_) (fun g5 g6 => ?_)
    · decide +kernel
    · exact tP_t hQ hT (if_neg (fun q => hb (dc_t.mp q).2.2)) hN
    rw [if_pos (dc_t.mpr ⟨g1, ⟨g3, g4⟩, g5, g6⟩)] at hQ
    refine zW.gb [] rfl rfl rfl (by omega) (by simp (disch := omega) only [true_or, or_true, eq_self, Option.some.injEq, Prod.mk.injEq, zall_0, zall_1, zall_2, zob_iff, zar_iff, zis_iff, zkIs_some, zkHas_some, iI_vp, z01_I, z01_bz, zch_I, true_and, and_true, or_false, false_or, and_self, upI_same, upL_same, upI_ne, upL_ne, iI_ixN, zI_mk, zL_mk, zP_mk, zK_mk, zN_mk, zwI_up, zwL_up, zg_some, Nat.reduceMod, Nat.reduceDiv, zcn_I, iI_add, iI_sub, iI_mul, iI_neg, iI_lt, iI_le, iI_eq, iI_lt0, iI_le0, iI_gt0, iI_ge0, iI_eq0, k0] <;> omega) (fun h' => ?_) (fun h' => ?_)
    · simp (disch := omega) only [zcn_I, iI_add, iI_sub, iI_mul, iI_neg, iI_lt, iI_le, iI_eq, iI_lt0, iI_le0, iI_gt0, iI_ge0, iI_eq0, upI_same, upL_same, upI_ne, upL_ne, iI_ixN, zI_mk, zL_mk, zP_mk, zK_mk, zN_mk, zwI_up, zwL_up, zg_some, Nat.reduceMod, Nat.reduceDiv, r1] at h'
      rw [if_neg (by omega)] at hQ
      obtain ⟨fm, rfl⟩ : ∃ n : Nat, fm = n := ⟨fm.toNat, by omega⟩
      obtain ⟨li, rfl⟩ : ∃ n : Nat, li = n := ⟨li.toNat, by omega⟩
      obtain ⟨cu, rfl⟩ : ∃ n : Nat, cu = n := ⟨cu.toNat, by omega⟩
      refine zW.gm [] rfl rfl rfl (by omega) (by simp (disch := omega) only [true_or, or_true, eq_self, Option.some.injEq, Prod.mk.injEq, zall_0, zall_1, zall_2, zob_iff, zar_iff, zis_iff, zkIs_some, zkHas_some, iI_vp, z01_I, z01_bz, zch_I, true_and, and_true, or_false, false_or, and_self, upI_same, upL_same, upI_ne, upL_ne, iI_ixN, zI_mk, zL_mk, zP_mk, zK_mk, zN_mk, zwI_up, zwL_up, zg_some, Nat.reduceMod, Nat.reduceDiv, zcn_I, iI_add, iI_sub, iI_mul, iI_neg, iI_lt, iI_le, iI_eq, iI_lt0, iI_le0, iI_gt0, iI_ge0, iI_eq0, k0] <;> omega) trivial (by decide +kernel) (by decide +kernel) (fun f1 => ?_)
      have q1 := fresh_I f1
      simp (disch := omega) only [Nat.add_assoc, iI_ix, Int.toNat_natCast, Int.reduceToNat, Nat.reduceAdd, znew_up, zwP_up, nwR_P, nwR_N, nwR_Ks, nwR_Ko, pwR_R, pwR_s, pwR_o, upI_same, upL_same, upI_ne, upL_ne, iI_ixN, zI_mk, zL_mk, zP_mk, zK_mk, zN_mk, zwI_up, zwL_up, zg_some, Nat.reduceMod, Nat.reduceDiv, zcn_I, p2, r1]
      refine zW.gc [] rfl rfl rfl (by omega) trivial ⟨_, rfl, (by simp (disch := omega) only [Nat.add_assoc, iI_ix, Int.toNat_natCast, Int.reduceToNat, Nat.reduceAdd, znew_up, zwP_up, nwR_P, nwR_N, nwR_Ks, nwR_Ko, pwR_R, pwR_s, pwR_o, upI_same, upL_same, upI_ne, upL_ne, iI_ixN, zI_mk, zL_mk, zP_mk, zK_mk, zN_mk, zwI_up, zwL_up, zg_some, Nat.reduceMod, Nat.reduceDiv, zcn_I]; rfl)⟩ (by decide +kernel) (by decide +kernel) ?_
      refine rinit_ok (b := R.2.2) (by omega) (by simp (disch := omega) only [Nat.add_assoc, iI_ix, Int.toNat_natCast, Int.reduceToNat, Nat.reduceAdd, znew_up, zwP_up, nwR_P, nwR_N, nwR_Ks, nwR_Ko, pwR_R, pwR_s, pwR_o, upI_same, upL_same, upI_ne, upL_ne, iI_ixN, zI_mk, zL_mk, zP_mk, zK_mk, zN_mk, zwI_up, zwL_up, zg_some, Nat.reduceMod, Nat.reduceDiv, zcn_I]) (by simp (disch := omega) only [Nat.add_assoc, iI_ix, Int.toNat_natCast, Int.reduceToNat, Nat.reduceAdd, znew_up, zwP_up, nwR_P, nwR_N, nwR_Ks, nwR_Ko, pwR_R, pwR_s, pwR_o, upI_same, upL_same, upI_ne, upL_ne, iI_ixN, zI_mk, zL_mk, zP_mk, zK_mk, zN_mk, zwI_up, zwL_up, zg_some, Nat.reduceMod, Nat.reduceDiv, zcn_I]) q1 rfl rfl rfl (by omega) (fun I' R' u1 u2 u3 u4 u6 => ?_)
      have w0 : R'.2.1 x = some (6, 0) := by
        rw [(u2 x (by omega)).2, nwR_Ko (by omega)]
        exact k0
      have w1 : R'.2.1 (x + 16) = some (28, 8) := by
        rw [(u2 (x + 16) (by omega)).2, nwR_Ko (by omega)]
        exact kr
      have w2 : R'.2.1 R.2.2 = some (3, 0) := u4.1
      have w3 : I' x 9 = iI (tRn T : Int) := (congrFun (u1 x (by omega)) 9).trans r1
      refine zW.gr [] rfl rfl rfl (by omega) ?_ trivial ?_
      · refine ⟨⟨_, rfl, w0⟩, ⟨_, rfl, w0⟩, ⟨_, rfl, w0⟩, Or.inr ⟨⟨_, _, rfl, w1, (iI_vp (by omega) (by omega)).mpr ⟨by omega, by omega⟩⟩, ⟨_, rfl, w2⟩⟩⟩
      simp (disch := omega) only [Nat.add_assoc, iI_ix, Int.toNat_natCast, Int.reduceToNat, Nat.reduceAdd, znew_up, zwP_up, nwR_P, nwR_N, nwR_Ks, nwR_Ko, pwR_R, pwR_s, pwR_o, upI_same, upL_same, upI_ne, upL_ne, iI_ixN, zI_mk, zL_mk, zP_mk, zK_mk, zN_mk, zwI_up, zwL_up, zg_some, Nat.reduceMod, Nat.reduceDiv, zcn_I, w3, iI_add, iI_sub]
      have u2' : zol R.2.2 R R' := fun a ha => ⟨(u2 a ha).1, (u2 a ha).2.trans (nwR_Ko (by omega))⟩
      have hfm : fm = 53 ∨ fm = 51 ∨ fm = 98 ∨ fm = 102 ∨ fm = 109 := by
        have : isFm (fm : Int) := g1
        unfold isFm at this
        omega
      obtain ⟨v1, v2⟩ := tf_rnd (b := R.2.2) (w := wNew fm li cu) hf (by omega) rfl u1 u2' u3 u4 (wNew_OK hfm (by omega) (by omega)) (fun c => rfl) u6
      rw [show iI ((tRn T + 1 : Nat) : Int) = iI ((tRn T : Int) + 1) from iI_cg (by omega)] at v1 v2
      rw [show iI ((tRn T : Int) + 1 - 1) = iI (tRn T : Int) from iI_cg (by omega)]
      exact tP_0 hQ rfl ⟨_, _, v1⟩ v2
    · simp (disch := omega) only [zcn_I, iI_add, iI_sub, iI_mul, iI_neg, iI_lt, iI_le, iI_eq, iI_lt0, iI_le0, iI_gt0, iI_ge0, iI_eq0, upI_same, upL_same, upI_ne, upL_ne, iI_ixN, zI_mk, zL_mk, zP_mk, zK_mk, zN_mk, zwI_up, zwL_up, zg_some, Nat.reduceMod, Nat.reduceDiv, r1] at h'
      rw [if_pos (by omega)] at hQ
      refine zW.gt [] rfl rfl rfl (by decide +kernel) (by omega) trivial (by decide +kernel) (by decide +kernel) rfl (fun N hN => ?_)
      exact tP_t hQ hT rfl hN
  · rw [if_neg (fun q => g1 (dc_t.mp q).1)] at hQ
    refine zW.gbf [] rfl rfl rfl (by omega) trivial (by simp (disch := omega) only [eq_self, not_true_eq_false, not_false_eq_true, upI_same, upL_same, upI_ne, upL_ne, iI_ixN, zI_mk, zL_mk, zP_mk, zK_mk, zN_mk, zwI_up, zwL_up, zg_some, Nat.reduceMod, Nat.reduceDiv, zcn_I, iI_add, iI_sub, iI_mul, iI_neg, iI_lt, iI_le, iI_eq, iI_lt0, iI_le0, iI_gt0, iI_ge0, iI_eq0] <;> omega) ?_
    refine zW.gt [] rfl rfl rfl (by decide +kernel) (by omega) trivial (by decide +kernel) (by decide +kernel) rfl (fun N hN => ?_)
    exact tP_t hQ hT rfl hN
end TRND
