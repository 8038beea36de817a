/-! A round of the class: telling, averages. -/
/-- one more result -/
def wTell (w : zRd) (c x : Nat) : zRd := (w.1, (fun j => if j = c then rMa w c + 1 else rMa w j), (fun j k => if j = c ∧ k = rMa w c then x else rRs w j k), w.2.2.2)
def pen (insp time angle : Int) (pop : Prop) : Prop := pop ∨ 1700 < insp ∨ 45 < (if 360 - angle < angle then 360 - angle else angle)
def penV (insp time angle : Int) : Int := time + (if 1500 < insp then 200 else 0) + (if 0 < (if 360 - angle < angle then 360 - angle else angle) then 200 else 0)
/-- a time is told -/
def wTime (w : zRd) (c time told : Nat) : Nat × zRd :=
  if 0 < rLi w ∧ 0 < told ∧ (rOv w c = true ∨ rLi w < rSp w c + told) then
    (0, wTell (w.1, rMa w, rRs w, (fun j => if j = c then rSp w c + time else rSp w j), (fun j => if j = c then true else rOv w j), w.2.2.2.2.2) c 0)
  else (told, wTell (w.1, rMa w, rRs w, (fun j => if j = c then rSp w c + (if 0 < told then told else time) else rSp w j), rOv w, w.2.2.2.2.2) c told)
def wSev (w : zRd) (c tried solved time x : Nat) : zRd := wTell (w.1, rMa w, rRs w, rSp w, rOv w, (fun j => if j = c then time else rTi w j), (fun j => if j = c then tried - solved else rUn w j), w.2.2.2.2.2.2.2) c x
section ROUND3
variable {d b : Nat} {w : zRd} {I : Nat → Nat → Int32} {L : Nat → Nat → Int64} {R : zRt} {Q : zO → zM → Prop}
theorem pen_ok {insp time angle pp : Int} {x y z u : Int32} {M : zM} (hd : 1 ≤ d) (e1 : x = iI insp) (e2 : y = iI time) (e3 : z = iI angle) (e4 : u = iI pp) (h1 : 0 ≤ insp) (h2 : insp ≤ 9999) (h3 : 1 ≤ time) (h4 : time ≤ 59999) (h5 : 0 ≤ angle) (h6 : angle ≤ 359) (h7 : -2147483648 ≤ pp) (h8 : pp < 2147483648)
    (t : pen insp time angle (pp ≠ 0) → Q (.inl (some (zi (iI 0)))) M) (f : ¬ pen insp time angle (pp ≠ 0) → Q (.inl (some (zi (iI (penV insp time angle))))) M) : zS 51 d [zi x, zi y, zi z, zi u] M Q := by
  subst e1; subst e2; subst e3; subst e4
  unfold pen at t f
  unfold penV at f
  have hmin : (if zcn 360 - iI angle < iI angle then zcn 360 - iI angle else iI angle) = iI (if 360 - angle < angle then 360 - angle else angle) := by
    rw [zcn_I, iI_sub, iI_min (by omega) (by omega) (by omega) (by omega)]
  have hm1 : 0 ≤ (if 360 - angle < angle then 360 - angle else angle) ∧ (if 360 - angle < angle then 360 - angle else angle) ≤ 359 := by split <;> omega
  generalize (if 360 - angle < angle then 360 - angle else angle) = mis at t f hmin hm1
  have yes : (pp ≠ 0 ∨ 1700 < insp ∨ 45 < mis) → zW 51 d 0 0 29 [some (zi (iI insp)), some (zi (iI time)), some (zi (iI angle)), some (zi (iI pp)), some (zi (iI mis))] [] M Q := by
    intro q
    refine zW.gr [] rfl rfl rfl hd trivial trivial ?_
    rw [zcn_I]
    exact t q
  refine zW.gb [] rfl rfl rfl hd trivial (fun h => ?_) (fun h => ?_) <;> rw [hmin] <;> simp (disch := omega) only [zcn_I, iI_add, iI_sub, iI_mul, iI_neg, iI_lt, iI_le, iI_eq, iI_lt0, iI_le0, iI_gt0, iI_ge0, iI_eq0] at h
  · exact yes (Or.inl h)
  · refine zW.gb [] rfl rfl rfl hd trivial (fun h' => ?_) (fun h' => ?_) <;> simp (disch := omega) only [zcn_I, iI_add, iI_sub, iI_mul, iI_neg, iI_lt, iI_le, iI_eq, iI_lt0, iI_le0, iI_gt0, iI_ge0, iI_eq0] at h'
    · exact yes (Or.inr (Or.inl (by omega)))
    · refine zW.gb [] rfl rfl rfl hd trivial (fun h9 => ?_) (fun h9 => yes (Or.inr (Or.inr (by simp (disch := omega) only [zcn_I, iI_add, iI_sub, iI_mul, iI_neg, iI_lt, iI_le, iI_eq, iI_lt0, iI_le0, iI_gt0, iI_ge0, iI_eq0] at h9; omega))))
      simp (disch := omega) only [zcn_I, iI_add, iI_sub, iI_mul, iI_neg, iI_lt, iI_le, iI_eq, iI_lt0, iI_le0, iI_gt0, iI_ge0, iI_eq0] at h9
      have no : ¬ (pp ≠ 0 ∨ 1700 < insp ∨ 45 < mis) := by omega
      have f := f no
      refine zW.gb [] rfl rfl rfl hd trivial (fun g => ?_) (fun g => ?_) <;> simp (disch := omega) only [zcn_I, iI_add, iI_sub, iI_mul, iI_neg, iI_lt, iI_le, iI_eq, iI_lt0, iI_le0, iI_gt0, iI_ge0, iI_eq0] at g
      · rw [if_neg (by omega)] at f
        refine zW.gb [] rfl rfl rfl hd trivial (fun g2 => ?_) (fun g2 => ?_) <;> simp (disch := omega) only [zcn_I, iI_add, iI_sub, iI_mul, iI_neg, iI_lt, iI_le, iI_eq, iI_lt0, iI_le0, iI_gt0, iI_ge0, iI_eq0] at g2
        · rw [if_neg (by omega)] at f
          refine zW.gr [] rfl rfl rfl hd trivial trivial ?_
          simp only [zcn_I, iI_add]
          exact f
        · rw [if_pos (by omega)] at f
          refine zW.gr [] rfl rfl rfl hd trivial trivial ?_
          simp only [zcn_I, iI_add]
          exact f
      · rw [if_pos (by omega)] at f
        refine zW.gb [] rfl rfl rfl hd trivial (fun g2 => ?_) (fun g2 => ?_) <;> simp (disch := omega) only [zcn_I, iI_add, iI_sub, iI_mul, iI_neg, iI_lt, iI_le, iI_eq, iI_lt0, iI_le0, iI_gt0, iI_ge0, iI_eq0] at g2
        · rw [if_neg (by omega)] at f
          refine zW.gr [] rfl rfl rfl hd trivial trivial ?_
          simp only [zcn_I, iI_add]
          exact f
        · rw [if_pos (by omega)] at f
          refine zW.gr [] rfl rfl rfl hd trivial trivial ?_
          simp only [zcn_I, iI_add]
          exact f
theorem rOK_tell {w : zRd} {c x : Nat} (o1 : rFm w = 53 ∨ rFm w = 51 ∨ rFm w = 98 ∨ rFm w = 102 ∨ rFm w = 109) (o2 : rLi w ≤ 999999) (o3 : rCu w ≤ 59999) (o4 : rDy w ≤ 999) (hm : rMa w c < mxA (rFm w)) (hx : x ≤ 60399)
    (o5 : ∀ j, j < 12 → rMa w j ≤ mxA (rFm w) ∧ (∀ k, k < rMa w j → rRs w j k ≤ 60399) ∧ rSp w j ≤ (if j = c then rMa w c + 1 else rMa w j) * 60399 ∧ rTi w j ≤ 359999 ∧ rUn w j ≤ 60 ∧ (rOv w j = true → 0 < rLi w)) : rOK (wTell w c x) := by
  refine ⟨o1, o2, o3, o4, fun j hj => ?_⟩
  obtain ⟨a1, a2, a3, a4, a5, a6⟩ := o5 j hj
  by_cases cj : j = c
  · subst cj
    refine ⟨?_, fun k hk2 => ?_, a3, a4, a5, a6⟩
    · show (if j = j then rMa w j + 1 else rMa w j) ≤ mxA (rFm w)
      rw [if_pos rfl]
      exact hm
    · have hk2 : k < (if j = j then rMa w j + 1 else rMa w j) := hk2
      rw [if_pos rfl] at hk2
      show (if j = j ∧ k = rMa w j then x else rRs w j k) ≤ 60399
      split
      · exact hx
      · exact a2 k (by omega)
  · refine ⟨?_, fun k hk2 => ?_, a3, a4, a5, a6⟩
    · show (if j = c then rMa w c + 1 else rMa w j) ≤ mxA (rFm w)
      rw [if_neg cj]
      exact a1
    · have hk2 : k < (if j = c then rMa w c + 1 else rMa w j) := hk2
      rw [if_neg cj] at hk2
      show (if j = c ∧ k = rMa w c then x else rRs w j k) ≤ 60399
      rw [if_neg (by omega)]
      exact a2 k hk2
theorem sp_up {w : zRd} {j c : Nat} (h : rSp w j ≤ rMa w j * 60399) : rSp w j ≤ (if j = c then rMa w c + 1 else rMa w j) * 60399 := by
  split
  · rename_i e
    rw [← e]
    exact Nat.le_trans h (Nat.mul_le_mul_right _ (Nat.le_succ _))
  · exact h
theorem tellR_ok {c x : Nat} {y z : Int32} (hd : 1 ≤ d) (hL : RLy b R) (hR : rPR b I w) (e1 : y = iI (c : Int)) (e2 : z = iI (cv (rFm w) x)) (hc : c < 12) (hm : rMa w c < mxA (rFm w))
    (hQ : ∀ I', rfr b I I' → rPR b I' (wTell w c x) → Q (.inl none) (I', L, R)) : zS 54 d [zr (some b), zi y, zi z] (I, L, R) Q := by
  subst e1; subst e2
  have hL' := hL
  obtain ⟨k0, p3, p4, p5, p6, p7, p8, k1, k14, k15, k16, k17, k18, krow⟩ := hL'
  obtain ⟨q1, q2⟩ := krow c hc
  have hR' := hR
  obtain ⟨h1, h2, h3, h4, h5, h6, h7⟩ := hR'
  obtain ⟨m1, m2, m3, m4, m5, m6⟩ := h7 c hc
  have hm5 := mxA_le (rFm w)
  refine zW.gbf [] rfl rfl rfl hd ?_ ?_ (zW.gbf [] rfl rfl rfl hd trivial ?_ (zW.gr [] rfl rfl rfl hd ?_ trivial ?_))
  · simp (disch := omega) only [upI_same, upL_same, upI_ne, upL_ne, iI_ixN, zI_mk, zL_mk, zP_mk, zK_mk, zN_mk, zwI_up, zwL_up, zg_some, Nat.reduceMod, Nat.reduceDiv, zcn_I, iI_add, iI_sub, iI_mul, iI_neg, iI_lt, iI_le, iI_eq, iI_lt0, iI_le0, iI_gt0, iI_ge0, iI_eq0, p4]
    exact (by simp (disch := omega) only [true_or, or_true, eq_self, Option.some.injEq, Prod.mk.injEq, zall_0, zall_1, zall_2, zob_iff, zar_iff, zis_iff, zkIs_some, zkHas_some, iI_vp, z01_I, z01_bz, zch_I, true_and, and_true, or_false, false_or, and_self, upI_same, upL_same, upI_ne, upL_ne, iI_ixN, zI_mk, zL_mk, zP_mk, zK_mk, zN_mk, zwI_up, zwL_up, zg_some, Nat.reduceMod, Nat.reduceDiv, zcn_I, iI_add, iI_sub, iI_mul, iI_neg, iI_lt, iI_le, iI_eq, iI_lt0, iI_le0, iI_gt0, iI_ge0, iI_eq0, k0, p4, k14] <;> omega)
  · exact (by simp (disch := omega) only [eq_self, not_true_eq_false, not_false_eq_true, upI_same, upL_same, upI_ne, upL_ne, iI_ixN, zI_mk, zL_mk, zP_mk, zK_mk, zN_mk, zwI_up, zwL_up, zg_some, Nat.reduceMod, Nat.reduceDiv, zcn_I, iI_add, iI_sub, iI_mul, iI_neg, iI_lt, iI_le, iI_eq, iI_lt0, iI_le0, iI_gt0, iI_ge0, iI_eq0, p4, m1] <;> omega)
  · exact (by simp (disch := omega) only [eq_self, not_true_eq_false, not_false_eq_true, upI_same, upL_same, upI_ne, upL_ne, iI_ixN, zI_mk, zL_mk, zP_mk, zK_mk, zN_mk, zwI_up, zwL_up, zg_some, Nat.reduceMod, Nat.reduceDiv, zcn_I, iI_add, iI_sub, iI_mul, iI_neg, iI_lt, iI_le, iI_eq, iI_lt0, iI_le0, iI_gt0, iI_ge0, iI_eq0, p4, m1] <;> omega)
  · simp (disch := omega) only [upI_same, upL_same, upI_ne, upL_ne, iI_ixN, zI_mk, zL_mk, zP_mk, zK_mk, zN_mk, zwI_up, zwL_up, zg_some, Nat.reduceMod, Nat.reduceDiv, zcn_I, iI_add, iI_sub, iI_mul, iI_neg, iI_lt, iI_le, iI_eq, iI_lt0, iI_le0, iI_gt0, iI_ge0, iI_eq0, p3, p4, q1, m1]
    exact (by simp (disch := omega) only [true_or, or_true, eq_self, Option.some.injEq, Prod.mk.injEq, zall_0, zall_1, zall_2, zob_iff, zar_iff, zis_iff, zkIs_some, zkHas_some, iI_vp, z01_I, z01_bz, zch_I, true_and, and_true, or_false, false_or, and_self, upI_same, upL_same, upI_ne, upL_ne, iI_ixN, zI_mk, zL_mk, zP_mk, zK_mk, zN_mk, zwI_up, zwL_up, zg_some, Nat.reduceMod, Nat.reduceDiv, zcn_I, iI_add, iI_sub, iI_mul, iI_neg, iI_lt, iI_le, iI_eq, iI_lt0, iI_le0, iI_gt0, iI_ge0, iI_eq0, k0, p3, p4, k1, k14, q1, q2, m1] <;> omega)
  · simp (disch := omega) only [upI_same, upL_same, upI_ne, upL_ne, iI_ixN, zI_mk, zL_mk, zP_mk, zK_mk, zN_mk, zwI_up, zwL_up, zg_some, Nat.reduceMod, Nat.reduceDiv, zcn_I, iI_add, p3, p4, q1, m1]
    refine hQ _ (fun a q => ?_) ⟨?_, ?_, ?_, ?_, ?_, ?_, fun j hj => ?_⟩
    · rw [upI_row (by omega), upI_row (by omega)]
    · rw [upI_row (by omega), upI_row (by omega)]
      exact h1
    · rw [upI_row (by omega), upI_row (by omega)]
      exact h2
    · rw [upI_row (by omega), upI_row (by omega)]
      exact h3
    · rw [upI_row (by omega), upI_row (by omega)]
      exact h4
    · rw [upI_row (by omega), upI_row (by omega)]
      exact h5
    · rw [upI_row (by omega), upI_row (by omega)]
      exact h6
    · obtain ⟨a1, a2, a3, a4, a5, a6⟩ := h7 j hj
      refine ⟨?_, ?_, ?_, ?_, ?_, fun k hk2 => ?_⟩
      · show _ = iI ((if j = c then rMa w c + 1 else rMa w j : Nat) : Int)
        by_cases cj : j = c
        · rw [cj, upI_same, if_pos rfl]
          rfl
        · rw [upI_ne (by omega), upI_row (by omega), if_neg cj]
          exact a1
      · rw [upI_row (by omega), upI_row (by omega)]
        exact a2
      · rw [upI_row (by omega), upI_row (by omega)]
        exact a3
      · rw [upI_row (by omega), upI_row (by omega)]
        exact a4
      · rw [upI_row (by omega), upI_row (by omega)]
        exact a5
      · have hk2 : k < (if j = c then rMa w c + 1 else rMa w j) := hk2
        show _ = iI (cv (rFm w) (if j = c ∧ k = rMa w c then x else rRs w j k))
        rw [upI_row (by omega)]
        by_cases cj : j = c
        · subst cj
          rw [if_pos rfl] at hk2
          by_cases ck : k = rMa w j
          · rw [ck, upI_same, if_pos ⟨rfl, rfl⟩]
          · rw [upI_ne (by omega), if_neg (by omega)]
            exact a6 k (by omega)
        · rw [if_neg cj] at hk2
          rw [upI_row (by omega), if_neg (by omega)]
          exact a6 k hk2
theorem tellS_ok {c tried solved time : Nat} {x y z u : Int32} (hd : 2 ≤ d) (hL : RLy b R) (hk : rOK w) (hR : rPR b I w) (h109 : rFm w = 109) (e1 : x = iI (c : Int)) (e2 : y = iI (tried : Int)) (e3 : z = iI (solved : Int)) (e4 : u = iI (time : Int)) (hc : c < 12) (hm : rMa w c < mxA (rFm w)) (ht : 2 ≤ tried) (ht2 : tried ≤ 60) (hs : solved ≤ tried) (htm : time ≤ 359999)
    (hQ : ∀ I', rfr b I I' → rOK (wSev w c tried solved time (if 2 * (solved : Int) - tried < (if tried = 2 then 1 else 0) then 0 else 2 * solved - tried + 1)) → rPR b I' (wSev w c tried solved time (if 2 * (solved : Int) - tried < (if tried = 2 then 1 else 0) then 0 else 2 * solved - tried + 1)) → Q (.inl (some (zi (iI (if 2 * (solved : Int) - tried < (if tried = 2 then 1 else 0) then -1 else 2 * (solved : Int) - tried))))) (I', L, R)) : zS 53 d [zr (some b), zi x, zi y, zi z, zi u] (I, L, R) Q := by
  subst e1; subst e2; subst e3; subst e4
  have hL' := hL
  obtain ⟨k0, p3, p4, p5, p6, p7, p8, k1, k14, k15, k16, k17, k18, krow⟩ := hL'
  have hR' := hR
  obtain ⟨h1, h2, h3, h4, h5, h6, h7⟩ := hR'
  obtain ⟨o1, o2, o3, o4, o5⟩ := hk
  have e5 : (tried : Int) - (solved : Int) = ((tried - solved : Nat) : Int) := by omega
  -- what is told, then the result
  have fin : ∀ (v : Int) (xx : Nat) (o : Int32), o = iI v → v = cv 109 xx → xx ≤ 61 → (∀ I', rfr b I I' → rOK (wSev w c tried solved time xx) → rPR b I' (wSev w c tried solved time xx) → Q (.inl (some (zi (iI v)))) (I', L, R)) →
      zW 53 d 0 0 28 [some (zr (some b)), some (zi (iI (c : Int))), some (zi (iI (tried : Int))), some (zi (iI (solved : Int))), some (zi (iI (time : Int))), some (zi (iI (2 * (solved : Int) - tried))), none] [zi o] (I, L, R) Q := by
    intro v xx o eo ev hxx hq
    subst eo
    refine zW.gz [] rfl rfl rfl (by omega) ?_ ⟨_, rfl, k0⟩ rfl rfl (Nat.le_refl _) (Nat.le_refl _) ?_
    · simp (disch := omega) only [upI_same, upL_same, upI_ne, upL_ne, iI_ixN, zI_mk, zL_mk, zP_mk, zK_mk, zN_mk, zwI_up, zwL_up, zg_some, Nat.reduceMod, Nat.reduceDiv, zcn_I, iI_add, iI_sub, iI_mul, iI_neg, iI_lt, iI_le, iI_eq, iI_lt0, iI_le0, iI_gt0, iI_ge0, iI_eq0, p7, p8]
      exact (by simp (disch := omega) only [true_or, or_true, eq_self, Option.some.injEq, Prod.mk.injEq, zall_0, zall_1, zall_2, zob_iff, zar_iff, zis_iff, zkIs_some, zkHas_some, iI_vp, z01_I, z01_bz, zch_I, true_and, and_true, or_false, false_or, and_self, upI_same, upL_same, upI_ne, upL_ne, iI_ixN, zI_mk, zL_mk, zP_mk, zK_mk, zN_mk, zwI_up, zwL_up, zg_some, Nat.reduceMod, Nat.reduceDiv, zcn_I, iI_add, iI_sub, iI_mul, iI_neg, iI_lt, iI_le, iI_eq, iI_lt0, iI_le0, iI_gt0, iI_ge0, iI_eq0, k0, p7, p8, k17, k18] <;> omega)
    · simp (disch := omega) only [upI_same, upL_same, upI_ne, upL_ne, iI_ixN, zI_mk, zL_mk, zP_mk, zK_mk, zN_mk, zwI_up, zwL_up, zg_some, Nat.reduceMod, Nat.reduceDiv, iI_sub, p7, p8, e5]
      refine tellR_ok (x := xx) (w := (w.1, rMa w, rRs w, rSp w, rOv w, (fun j => if j = c then time else rTi w j), (fun j => if j = c then tried - solved else rUn w j), w.2.2.2.2.2.2.2)) (by omega) hL ⟨?_, ?_, ?_, ?_, ?_, ?_, fun j hj => ?_⟩ rfl ?_ hc hm (fun I' f' r' => ?_)
      · rw [upI_row (by omega), upI_row (by omega)]
        exact h1
      · rw [upI_row (by omega), upI_row (by omega)]
        exact h2
      · rw [upI_row (by omega), upI_row (by omega)]
        exact h3
      · rw [upI_row (by omega), upI_row (by omega)]
        exact h4
      · rw [upI_row (by omega), upI_row (by omega)]
        exact h5
      · rw [upI_row (by omega), upI_row (by omega)]
        exact h6
      · obtain ⟨a1, a2, a3, a4, a5, a6⟩ := h7 j hj
        refine ⟨?_, ?_, ?_, ?_, ?_, fun k hk2 => ?_⟩
        · rw [upI_row (by omega), upI_row (by omega)]
          exact a1
        · rw [upI_row (by omega), upI_row (by omega)]
          exact a2
        · rw [upI_row (by omega), upI_row (by omega)]
          exact a3
        · show _ = iI ((if j = c then time else rTi w j : Nat) : Int)
          rw [upI_row (by omega)]
          by_cases cj : j = c
          · rw [cj, upI_same, if_pos rfl]
          · rw [upI_ne (by omega), if_neg cj]
            exact a4
        · show _ = iI ((if j = c then tried - solved else rUn w j : Nat) : Int)
          by_cases cj : j = c
          · rw [cj, upI_same, if_pos rfl]
          · rw [upI_ne (by omega), upI_row (by omega), if_neg cj]
            exact a5
        · rw [upI_row (by omega), upI_row (by omega)]
          exact a6 k hk2
      · show iI v = iI (cv (rFm w) xx)
        rw [h109, ev]
      · refine zW.gr [] rfl rfl rfl (by omega) trivial trivial ?_
        refine hq I' (fun a q => ?_) ?_ r'
        · rw [f' a q, upI_row (by omega), upI_row (by omega)]
        · refine rOK_tell o1 o2 o3 o4 hm (by omega) fun j hj => ?_
          obtain ⟨a1, a2, a3, a4, a5, a6⟩ := o5 j hj
          refine ⟨a1, a2, sp_up (w := w) a3, ?_, ?_, a6⟩
          · show (if j = c then time else rTi w j) ≤ 359999
            split <;> omega
          · show (if j = c then tried - solved else rUn w j) ≤ 60
            split <;> omega
  refine zW.gb [] rfl rfl rfl (by omega) trivial (fun g => ?_) (fun g => ?_) <;> simp (disch := omega) only [zcn_I, iI_add, iI_sub, iI_mul, iI_neg, iI_lt, iI_le, iI_eq, iI_lt0, iI_le0, iI_gt0, iI_ge0, iI_eq0] at g
  · have g2 : tried ≠ 2 := by omega
    rw [if_neg g2] at hQ
    refine zW.gb [] rfl rfl rfl (by omega) trivial (fun h => ?_) (fun h => ?_) <;> simp (disch := omega) only [zcn_I, iI_add, iI_sub, iI_mul, iI_neg, iI_lt, iI_le, iI_eq, iI_lt0, iI_le0, iI_gt0, iI_ge0, iI_eq0] at h <;> simp only [zcn_I, iI_mul, iI_sub]
    · rw [if_neg (by omega), if_neg (by omega)] at hQ
      refine zW.go [28] rfl (by omega) trivial ?_
      refine fin _ _ _ rfl ?_ (by omega) hQ
      unfold cv
      rw [if_pos rfl]
      omega
    · rw [if_pos (by omega), if_pos (by omega)] at hQ
      refine zW.go [28] rfl (by omega) trivial ?_
      exact fin _ _ _ (zcn_I (-1)) rfl (by omega) hQ
  · have g2 : tried = 2 := by omega
    rw [if_pos g2] at hQ
    refine zW.gb [] rfl rfl rfl (by omega) trivial (fun h => ?_) (fun h => ?_) <;> simp (disch := omega) only [zcn_I, iI_add, iI_sub, iI_mul, iI_neg, iI_lt, iI_le, iI_eq, iI_lt0, iI_le0, iI_gt0, iI_ge0, iI_eq0] at h <;> simp only [zcn_I, iI_mul, iI_sub]
    · rw [if_neg (by omega), if_neg (by omega)] at hQ
      refine zW.go [28] rfl (by omega) trivial ?_
      refine fin _ _ _ rfl ?_ (by omega) hQ
      unfold cv
      rw [if_pos rfl]
      omega
    · rw [if_pos (by omega), if_pos (by omega)] at hQ
      refine zW.go [28] rfl (by omega) trivial ?_
      exact fin _ _ _ (zcn_I (-1)) rfl (by omega) hQ
end ROUND3
