/-! The class takes puzzles. -/
section TPUZ
variable {d x z : Nat} {pb rb : Nat → Nat} {T : tfT} {I : Nat → Nat → Int32} {L : Nat → Nat → Int64} {R : zRt} {Q : zO → zM → Prop}
/-- one more, at the end -/
def exb {α : Type} (f : Nat → α) (n : Nat) (v : α) (k : Nat) : α := if k = n then v else f k
theorem exb_s {α : Type} (f : Nat → α) (n : Nat) (v : α) : exb f n v n = v := if_pos rfl
theorem exb_o {α : Type} {f : Nat → α} {n k : Nat} {v : α} (h : k ≠ n) : exb f n v k = f k := if_neg h
def pz0 (n : Nat) : zPz := ((n, 0), (fun _ p => p), (fun p => p), (fun p => p))
def tNewP (T : tfT) (n : Nat) : tfT := ((tTy T, tPn T + 1, exb (tPz T) (tPn T) (pz0 n)), T.2)
theorem tf_puz {n b : Nat} {I' : Nat → Nat → Int32} {L' : Nat → Nat → Int64} {R' : zRt} (h : tf x z pb rb T (I, L, R)) (h4 : tPn T < 4) (hb : b = R.2.2) (f : zfr b I L I' L') (g : zol b R R') (gN : R'.2.2 = b + 24) (hZ : ZL b R') (hz : zOK n 0 (fun _ p => p) (fun p => p) (fun p => p)) (hR : zPR b I' L' n 0 (fun _ p => p) (fun p => p) (fun p => p)) : tf x z (exb pb (tPn T) b) rb (tNewP T n) (upI I' x 3 (iI ((tPn T + 1 : Nat) : Int)), L', pwR R' (x + 2) (tPn T) (some b)) ∧ tfr x z (I, L, R) (upI I' x 3 (iI ((tPn T + 1 : Nat) : Int)), L', pwR R' (x + 2) (tPn T) (some b)) := by
  obtain ⟨k1, ⟨y1, y2, y3⟩, k3, ⟨a1, a2⟩, ⟨b1, b2⟩, c, ⟨d1, d2⟩, ⟨e1, e2⟩, g9⟩ := h
  obtain ⟨l1, l2, l3, l4, l5⟩ := k3
  have l2' : z ≤ R.2.2 := l2
  have l3' : ∀ i, i < tPn T → z ≤ pb i ∧ pb i + 24 ≤ R.2.2 ∧ ∀ k, k < i → pb k + 24 ≤ pb i := l3
  have l4' : ∀ j, j < tRn T → z ≤ rb j ∧ rb j + 19 ≤ R.2.2 ∧ ∀ k, k < j → rb k + 19 ≤ rb j := l4
  have hI : ∀ a, a < b → a ≠ x → upI I' x 3 (iI ((tPn T + 1 : Nat) : Int)) a = I a := fun a q1 q2 => by
    rw [upI_row q2]
    exact f.1 a (by omega)
  have hx : ∀ k, k ≠ 3 → upI I' x 3 (iI ((tPn T + 1 : Nat) : Int)) x k = I x k := fun k q => by
    rw [upI_ne (by omega)]
    exact congrFun (f.1 x (by omega)) k
  have hL : ∀ a, a < b → L' a = L a := fun a q => f.2 a (by omega)
  have hP : ∀ a, a < b → a ≠ x + 2 → (pwR R' (x + 2) (tPn T) (some b)).1 a = R.1 a := fun a q1 q2 => by
    rw [pwR_row q2]
    exact (g a q1).1
  have hK : ∀ a, a < b → (pwR R' (x + 2) (tPn T) (some b)).2.1 a = R.2.1 a := fun a q1 => by
    rw [pwR_R]
    exact (g a q1).2
  refine ⟨⟨⟨k1.1, ⟨by show tPn T + 1 ≤ 4; omega, fun i hi => ?_⟩, k1.2.2⟩, ⟨tFix_cg (fun a q1 q2 => hK a (by omega)) (fun a q1 q2 q3 q4 => hP a (by omega) q3) y1, fun i hi => ?_, fun j hj => ⟨?_, RLy_cg (fun a q1 q2 => ⟨hK a (by have := l4' j hj; omega), hP a (by have := l4' j hj; omega) (by have := l4' j hj; omega)⟩) (y3 j hj).2⟩⟩, ⟨l1, ?_, fun i hi => ?_, fun j hj => ?_, fun i j hi hj => ?_⟩, ⟨?_, ?_⟩, ⟨upI_same _ _ _ _, fun i hi => ?_⟩, ⟨c.1, ?_, ?_, c.2.2.2⟩, ⟨?_, fun k hk => ?_⟩, ⟨?_, fun j hj => rPR_fr (e2 j hj) (fun a q1 q2 => hI a (by have := l4' j hj; omega) (by have := l4' j hj; omega))⟩, ?_⟩, ⟨fun a q1 q2 => ⟨?_, ?_, ?_, ?_⟩, ?_, fun a q1 w => ?_⟩⟩
  · show zOK (pzN (exb (tPz T) (tPn T) (pz0 n) i)) (pzR (exb (tPz T) (tPn T) (pz0 n) i)) (pzT (exb (tPz T) (tPn T) (pz0 n) i)) (pzC (exb (tPz T) (tPn T) (pz0 n) i)) (pzS (exb (tPz T) (tPn T) (pz0 n) i))
    have hi' : i < tPn T + 1 := hi
    by_cases e : i = tPn T
    · rw [e, exb_s]
      exact hz
    · rw [exb_o e]
      exact k1.2.1.2 i (by omega)
  · have hi' : i < tPn T + 1 := hi
    by_cases e : i = tPn T
    · rw [e, exb_s]
      refine ⟨?_, ZL_cg (fun a q1 q2 => ⟨?_, pwR_row (by omega)⟩) hZ⟩
      · show (pwR R' (x + 2) (tPn T) (some b)).1 (x + 2) (tPn T) = some b
        exact pwR_s _ _ _ _
      · rw [pwR_R]
    · have hi2 : i < tPn T := by omega
      rw [exb_o e]
      refine ⟨?_, ZL_cg (fun a q1 q2 => ⟨hK a (by have := l3' i hi2; omega), hP a (by have := l3' i hi2; omega) (by have := l3' i hi2; omega)⟩) (y2 i hi2).2⟩
      show (pwR R' (x + 2) (tPn T) (some b)).1 (x + 2) i = some (pb i)
      rw [pwR_o (by omega), (g (x + 2) (by omega)).1]
      exact (y2 i hi2).1
  · show (pwR R' (x + 2) (tPn T) (some b)).1 (x + 16) j = some (rb j)
    rw [hP _ (by omega) (by omega)]
    exact (y3 j hj).1
  · show z ≤ (pwR R' (x + 2) (tPn T) (some b)).2.2
    rw [pwR_R, gN]
    omega
  · have hi' : i < tPn T + 1 := hi
    show z ≤ exb pb (tPn T) b i ∧ exb pb (tPn T) b i + 24 ≤ (pwR R' (x + 2) (tPn T) (some b)).2.2 ∧ ∀ k, k < i → exb pb (tPn T) b k + 24 ≤ exb pb (tPn T) b i
    rw [pwR_R, gN]
    by_cases e : i = tPn T
    · rw [e, exb_s]
      refine ⟨by omega, Nat.le_refl _, fun k hk => ?_⟩
      rw [exb_o (by omega)]
      have := l3' k hk
      omega
    · have q := l3' i (by omega)
      rw [exb_o e]
      refine ⟨q.1, by omega, fun k hk => ?_⟩
      rw [exb_o (by omega)]
      exact q.2.2 k hk
  · show z ≤ rb j ∧ rb j + 19 ≤ (pwR R' (x + 2) (tPn T) (some b)).2.2 ∧ _
    rw [pwR_R, gN]
    have q := l4' j hj
    exact ⟨q.1, by omega, q.2.2⟩
  · have hi' : i < tPn T + 1 := hi
    have q := l4' j hj
    by_cases e : i = tPn T
    · rw [e, exb_s]
      omega
    · rw [exb_o e]
      exact l5 i j (by omega) hj
  · exact (hx 1 (by omega)).trans a1
  · show hl (upI I' x 3 _ (x + 1)) _
    rw [hI (x + 1) (by omega) (by omega)]
    exact a2
  · show zPR (exb pb (tPn T) b i) _ _ (pzN (exb (tPz T) (tPn T) (pz0 n) i)) (pzR (exb (tPz T) (tPn T) (pz0 n) i)) (pzT (exb (tPz T) (tPn T) (pz0 n) i)) (pzC (exb (tPz T) (tPn T) (pz0 n) i)) (pzS (exb (tPz T) (tPn T) (pz0 n) i))
    have hi' : i < tPn T + 1 := hi
    by_cases e : i = tPn T
    · rw [e, exb_s, exb_s]
      exact zPR_fr hR (fun a q1 q2 => upI_row (by omega)) (fun a q1 q2 => rfl)
    · have hi2 : i < tPn T := by omega
      rw [exb_o e, exb_o e]
      exact zPR_fr (b2 i hi2) (fun a q1 q2 => hI a (by have := l3' i hi2; omega) (by have := l3' i hi2; omega)) (fun a q1 q2 => hL a (by have := l3' i hi2; omega))
  · show upI I' x 3 _ (x + 3) 5 = _
    rw [hI (x + 3) (by omega) (by omega)]
    exact c.2.1
  · show hl (upI I' x 3 _ (x + 3 + 1)) _
    rw [hI (x + 3 + 1) (by omega) (by omega)]
    exact c.2.2.1
  · exact (hx 7 (by omega)).trans d1
  · show upI I' x 3 _ (x + 15) k = _
    rw [hI (x + 15) (by omega) (by omega)]
    exact d2 k hk
  · exact (hx 9 (by omega)).trans e1
  · exact (hx 10 (by omega)).trans g9
  · exact hI a (hb ▸ q1) (fun e => q2 (Or.inl ⟨by omega, by omega⟩))
  · exact hL a (hb ▸ q1)
  · exact hP a (hb ▸ q1) (fun e => q2 (Or.inl ⟨by omega, by omega⟩))
  · exact hK a (hb ▸ q1)
  · show R.2.2 ≤ (pwR R' (x + 2) (tPn T) (some b)).2.2
    rw [pwR_R, gN]
    omega
  · have q1' : a < R.2.2 := q1
    rcases w with w | ⟨i, b', w1, w2, w3, w4⟩
    · exact Or.inl w
    · have w1' : i < (upI I' x 3 (iI ((tPn T + 1 : Nat) : Int)) x 3).toNatClampNeg := w1
      rw [upI_same, iI_ixN (by omega)] at w1'
      have w2' : (pwR R' (x + 2) (tPn T) (some b)).1 (x + 2) i = some b' := w2
      by_cases e : i = tPn T
      · rw [e, pwR_s] at w2'
        cases w2'
        omega
      · rw [pwR_o (by omega), (g (x + 2) (by omega)).1] at w2'
        refine Or.inr ⟨i, b', ?_, w2', w3, w4⟩
        have b1' : I x 3 = iI (tPn T : Int) := b1
        show i < (I x 3).toNatClampNeg
        rw [b1', iI_ixN (by omega)]
        omega
def oPuz (T : tfT) (v : Int) : tRes := if ¬ (3 ≤ v ∧ v ≤ 10) then (1, 0, T) else if ¬ tPn T < 4 then (2, 0, T) else (0, (tPn T : Int), tNewP T v.toNat)
theorem puzzle_ok {v : Int} {a : Int32} (hd : 9 ≤ d) (h : tfx x z T (I, L, R)) (e1 : a = iI v) (h1 : i32 v) (hQ : tP x z (I, L, R) (oPuz T v) [0, 2] eI Q) : zS 101 d [zr (some x), zi a] (I, L, R) Q := by
  subst e1
  have hT := h
  obtain ⟨pb, rb, hf⟩ := h
  have k0 := tf_k0 hf
  have p2 : R.1 x 2 = some (x + 2) := hf.2.1.1.2.2.1
  have kr : R.2.1 (x + 2) = some (27, 4) := hf.2.1.1.2.2.2.2.2.2.2.2.1
  have r1 : I x 3 = iI (tPn T : Int) := hf.2.2.2.2.1.1
  have hn := hf.1.2.1.1
  have hl1 : x + 17 ≤ z := hf.2.2.1.1
  have hl2 : z ≤ R.2.2 := hf.2.2.1.2.1
  unfold oPuz at hQ
  refine zW.gc [] rfl rfl rfl (by omega) trivial trivial (by decide +kernel) (by decide +kernel) ?_
  refine chkN_ok (by omega) rfl (zcn_I _) (zcn_I _) h1 ⟨by omega, by omega⟩ ⟨by omega, by omega⟩ (fun hb N hN => ?_) (fun g3 g4 => ?_)
  · exact tP_t hQ hT (if_pos hb) hN
  rw [if_neg (fun n => n ⟨g3, g4⟩)] at hQ
  refine zW.gb [] rfl rfl rfl (by omega) (by simp (disch := omega) only [true_or, or_true, eq_self, Option.some.injEq, Prod.mk.injEq, zall_0, zall_1, zall_2, zob_iff, zar_iff, zis_iff, zkIs_some, zkHas_some, iI_vp, z01_I, z01_bz, zch_I, true_and, and_true, or_false, false_or, and_self, upI_same, upL_same, upI_ne, upL_ne, iI_ixN, zI_mk, zL_mk, zP_mk, zK_mk, zN_mk, zwI_up, zwL_up, zg_some, Nat.reduceMod, Nat.reduceDiv, zcn_I, iI_add, iI_sub, iI_mul, iI_neg, iI_lt, iI_le, iI_eq, iI_lt0, iI_le0, iI_gt0, iI_ge0, iI_eq0, k0] <;> omega) (fun h' => ?_) (fun h' => ?_)
  · simp (disch := omega) only [zcn_I, iI_add, iI_sub, iI_mul, iI_neg, iI_lt, iI_le, iI_eq, iI_lt0, iI_le0, iI_gt0, iI_ge0, iI_eq0, upI_same, upL_same, upI_ne, upL_ne, iI_ixN, zI_mk, zL_mk, zP_mk, zK_mk, zN_mk, zwI_up, zwL_up, zg_some, Nat.reduceMod, Nat.reduceDiv, r1] at h'
    rw [if_neg (by omega)] at hQ
    obtain ⟨n, rfl⟩ : ∃ n : Nat, v = n := ⟨v.toNat, by omega⟩
    refine zW.gm [] rfl rfl rfl (by omega) (by simp (disch := omega) only [true_or, or_true, eq_self, Option.some.injEq, Prod.mk.injEq, zall_0, zall_1, zall_2, zob_iff, zar_iff, zis_iff, zkIs_some, zkHas_some, iI_vp, z01_I, z01_bz, zch_I, true_and, and_true, or_false, false_or, and_self, upI_same, upL_same, upI_ne, upL_ne, iI_ixN, zI_mk, zL_mk, zP_mk, zK_mk, zN_mk, zwI_up, zwL_up, zg_some, Nat.reduceMod, Nat.reduceDiv, zcn_I, iI_add, iI_sub, iI_mul, iI_neg, iI_lt, iI_le, iI_eq, iI_lt0, iI_le0, iI_gt0, iI_ge0, iI_eq0, k0] <;> omega) trivial (by decide +kernel) (by decide +kernel) (fun f1 => ?_)
    have q1 := fresh_I f1
    simp (disch := omega) only [Nat.add_assoc, iI_ix, Int.toNat_natCast, Int.reduceToNat, Nat.reduceAdd, znew_up, zwP_up, nwR_P, nwR_N, nwR_Ks, nwR_Ko, pwR_R, pwR_s, pwR_o, upI_same, upL_same, upI_ne, upL_ne, iI_ixN, zI_mk, zL_mk, zP_mk, zK_mk, zN_mk, zwI_up, zwL_up, zg_some, Nat.reduceMod, Nat.reduceDiv, zcn_I, p2, r1]
    refine zW.gc [] rfl rfl rfl (by omega) trivial ⟨_, rfl, (by simp (disch := omega) only [Nat.add_assoc, iI_ix, Int.toNat_natCast, Int.reduceToNat, Nat.reduceAdd, znew_up, zwP_up, nwR_P, nwR_N, nwR_Ks, nwR_Ko, pwR_R, pwR_s, pwR_o, upI_same, upL_same, upI_ne, upL_ne, iI_ixN, zI_mk, zL_mk, zP_mk, zK_mk, zN_mk, zwI_up, zwL_up, zg_some, Nat.reduceMod, Nat.reduceDiv, zcn_I]; rfl)⟩ (by decide +kernel) (by decide +kernel) ?_
    refine pinit_ok (b := R.2.2) (by omega) (by simp (disch := omega) only [Nat.add_assoc, iI_ix, Int.toNat_natCast, Int.reduceToNat, Nat.reduceAdd, znew_up, zwP_up, nwR_P, nwR_N, nwR_Ks, nwR_Ko, pwR_R, pwR_s, pwR_o, upI_same, upL_same, upI_ne, upL_ne, iI_ixN, zI_mk, zL_mk, zP_mk, zK_mk, zN_mk, zwI_up, zwL_up, zg_some, Nat.reduceMod, Nat.reduceDiv, zcn_I]) (by simp (disch := omega) only [Nat.add_assoc, iI_ix, Int.toNat_natCast, Int.reduceToNat, Nat.reduceAdd, znew_up, zwP_up, nwR_P, nwR_N, nwR_Ks, nwR_Ko, pwR_R, pwR_s, pwR_o, upI_same, upL_same, upI_ne, upL_ne, iI_ixN, zI_mk, zL_mk, zP_mk, zK_mk, zN_mk, zwI_up, zwL_up, zg_some, Nat.reduceMod, Nat.reduceDiv, zcn_I]) q1 rfl (by omega) (by omega) (fun I' L' R' u1 u2 u3 u4 u5 u6 => ?_)
    have w0 : R'.2.1 x = some (6, 0) := by
      rw [(u2 x (by omega)).2, nwR_Ko (by omega)]
      exact k0
    have w1 : R'.2.1 (x + 2) = some (27, 4) := by
      rw [(u2 (x + 2) (by omega)).2, nwR_Ko (by omega)]
      exact kr
    have w2 : R'.2.1 R.2.2 = some (2, 0) := u4.1
    have w3 : I' x 3 = iI (tPn T : Int) := (congrFun (u1.1 x (by omega)) 3).trans r1
    refine zW.gr [] rfl rfl rfl (by omega) ?_ trivial ?_
    · refine ⟨⟨_, rfl, w0⟩, ⟨_, rfl, w0⟩, ⟨_, rfl, w0⟩, Or.inl ⟨⟨_, _, rfl, w1, (iI_vp (by omega) (by omega)).mpr ⟨by omega, by omega⟩⟩, ⟨_, rfl, w2⟩⟩⟩
    simp (disch := omega) only [Nat.add_assoc, iI_ix, Int.toNat_natCast, Int.reduceToNat, Nat.reduceAdd, znew_up, zwP_up, nwR_P, nwR_N, nwR_Ks, nwR_Ko, pwR_R, pwR_s, pwR_o, upI_same, upL_same, upI_ne, upL_ne, iI_ixN, zI_mk, zL_mk, zP_mk, zK_mk, zN_mk, zwI_up, zwL_up, zg_some, Nat.reduceMod, Nat.reduceDiv, zcn_I, w3, iI_add, iI_sub]
    have u2' : zol R.2.2 R R' := fun a ha => ⟨(u2 a ha).1, (u2 a ha).2.trans (nwR_Ko (by omega))⟩
    obtain ⟨v1, v2⟩ := tf_puz (b := R.2.2) hf (by omega) rfl u1 u2' u3 u4 u5 u6
    rw [show iI ((tPn T + 1 : Nat) : Int) = iI ((tPn T : Int) + 1) from iI_cg (by omega)] at v1 v2
    rw [show iI ((tPn T : Int) + 1 - 1) = iI (tPn T : Int) from iI_cg (by omega)]
    exact tP_0 hQ rfl ⟨_, _, v1⟩ v2
  · simp (disch := omega) only [zcn_I, iI_add, iI_sub, iI_mul, iI_neg, iI_lt, iI_le, iI_eq, iI_lt0, iI_le0, iI_gt0, iI_ge0, iI_eq0, upI_same, upL_same, upI_ne, upL_ne, iI_ixN, zI_mk, zL_mk, zP_mk, zK_mk, zN_mk, zwI_up, zwL_up, zg_some, Nat.reduceMod, Nat.reduceDiv, r1] at h'
    rw [if_pos (by omega)] at hQ
    refine zW.gt [] rfl rfl rfl (by decide +kernel) (by omega) trivial (by decide +kernel) (by decide +kernel) rfl (fun N hN => ?_)
    exact tP_t hQ hT rfl hN
end TPUZ
