/-! The class is told of moves. -/
section TMOV2
variable {d x z : Nat} {pb rb : Nat → Nat} {T : tfT} {I : Nat → Nat → Int32} {L : Nat → Nat → Int64} {R : zRt} {Q : zO → zM → Prop}
theorem mvN_le (T : tfT) (i : Nat) : mvN T i ≤ 120 := by
  unfold mvN
  split
  · rename_i l hl
    have h1 := ct_le (rn l) l.length
    have h2 := (spell_ok hl).1
    split <;> omega
  · omega
noncomputable def oMov (T : tfT) (r c p : Int) : tRes := onC T r c fun j k => if noP T p then (1, 0, T) else if dc (rFm (tRd T j) = 102 ∧ opn (tRd T j) k) then (0, (mvN T p.toNat : Nat), tSetR T j (wTell (tRd T j) k (mvN T p.toNat)) (tDy T)) else (2, 0, T)
theorem moves_ok {r c p : Int} {a b f1 : Int32} (hd : 12 ≤ d) (h : tfx x z T (I, L, R)) (e1 : a = iI r) (e2 : b = iI c) (e3 : f1 = iI p) (h3 : i32 p) (h1 : i32 r) (h2 : i32 c) (hQ : tP x z (I, L, R) (oMov T r c p) [3, 1] eI Q) : zS 133 d [zr (some x), zi a, zi b, zi f1] (I, L, R) Q := by
  subst e1; subst e2; subst e3
  have hT := h
  obtain ⟨pb, rb, hf⟩ := h
  have k0 := tf_k0 hf
  have hc12 := hf.1.2.2.2.1.1
  refine zW.gc [] rfl rfl rfl (by omega) trivial ⟨_, rfl, k0⟩ (by decide +kernel) (by decide +kernel) ?_
  refine findR_ok (by omega) hf rfl h1 (fun hb N hN => ?_) (fun j hj hp => ?_)
  · exact tP_t hQ hT (if_pos hb) hN
  subst hj
  unfold oMov onC at hQ
  rw [onR_i hp] at hQ
  obtain ⟨hL, hk, hz, hR⟩ := tf_rd hf hp
  have b0 := hL.1
  refine zW.gc [] rfl rfl rfl (by omega) trivial ⟨_, rfl, k0⟩ (by decide +kernel) (by decide +kernel) ?_
  refine chkC_ok (by omega) hf rfl h2 (fun hb N hN => ?_) (fun g1 g2 => ?_)
  · exact tP_t hQ hT (if_pos hb) hN
  rw [if_neg (fun n => n ⟨g1, g2⟩)] at hQ
  dsimp only at hQ
  obtain ⟨k, rfl⟩ : ∃ k : Nat, c = k := ⟨c.toNat, by omega⟩
  have hc : k < 12 := by omega
  rw [show ((k : Int)).toNat = k from rfl] at hQ
  have r0 := hR.1
  have fl := fm_lt hk
  refine zW.gc [] rfl rfl rfl (by omega) trivial ⟨_, rfl, k0⟩ (by decide +kernel) (by decide +kernel) ?_
  refine findP_ok (by omega) hf rfl h3 (fun hb N hN => ?_) (fun i hi hpi => ?_)
  · exact tP_t hQ hT (if_pos hb) hN
  subst hi
  rw [if_neg (noP_no hpi)] at hQ
  have F : ∀ q : Int32, (rFm (tRd T j) = 102 ∧ q = iI 1) ∨ (¬ rFm (tRd T j) = 102 ∧ q = iI 0) → zW 133 d (0 + zmc 148 + zmc 149 + zmc 147) (0 + zms 148 + zms 149 + zms 147) 37 [some (zr (some x)), some (zi (iI (j : Int))), some (zi (iI (k : Int))), some (zi (iI (i : Int))), some (zr (some (rb j))), some (zr (some (pb i))), none] [zi q, zi (iI (k : Int)), zr (some (rb j))] (I, L, R) Q := by
    intro q hq
    refine zW.gc [] rfl rfl rfl (by omega) trivial trivial (by decide +kernel) (by decide +kernel) ?_
    refine chkO_ok (by omega) hL hk hR rfl hc hq (fun hb N hN => ?_) (fun u1 u2 u3 => ?_)
    · exact tP_t hQ hT (if_neg (fun q => hb (dc_t.mp q))) hN
    rw [if_pos (dc_t.mpr ⟨u1, u2, u3⟩)] at hQ
    refine zW.gz [] rfl rfl rfl (by omega) trivial ⟨_, rfl, k0⟩ rfl rfl (by decide +kernel) (by decide +kernel) ?_
    refine moves_ok' (by omega) hf hpi (fun I1 f1 => ?_)
    obtain ⟨q1, q2⟩ := tf_wd hf f1
    obtain ⟨hL1, hk1, hz1, hR1⟩ := tf_rd q1 hp
    have hm := mvN_le T i
    refine zW.gz [] rfl rfl rfl (by omega) trivial ⟨_, rfl, b0⟩ rfl rfl (by decide +kernel) (by decide +kernel) ?_
    refine tellR_ok (x := mvN T i) (by omega) hL1 hR1 rfl ?_ hc u3.1 (fun I' f hR' => ?_)
    · rw [u1]
      rfl
    have hk' : rOK (wTell (tRd T j) k (mvN T i)) := rOK_tell hk.1 hk.2.1 hk.2.2.1 hk.2.2.2.1 u3.1 (by omega) (fun m hm' => by
      obtain ⟨y1, y2, y3, y4, y5, y6⟩ := hk.2.2.2.2 m hm'
      refine ⟨y1, y2, ?_, y4, y5, y6⟩
      by_cases q : m = k
      · rw [if_pos q]
        subst q
        exact Nat.le_trans y3 (Nat.mul_le_mul_right _ (Nat.le_succ _))
      · rw [if_neg q]
        exact y3)
    have hm' : ∀ c, tCn T ≤ c → c < 12 → rMa (wTell (tRd T j) k (mvN T i)) c = 0 := fun c q1 q2 => (if_neg (show ¬ c = k by omega)).trans (hz c q1 q2)
    obtain ⟨q3, q4⟩ := tf_tel q1 hp f hk' hm' hR'
    refine zW.gr [] rfl rfl rfl (by omega) trivial trivial ?_
    exact tP_0 hQ rfl ⟨_, _, q3⟩ (tfr_tr q2 q4)
  by_cases q : rFm (tRd T j) = 102
  · refine zW.gbf [] rfl rfl rfl (by omega) (by simp (disch := omega) only [true_or, or_true, eq_self, Option.some.injEq, Prod.mk.injEq, zall_0, zall_1, zall_2, zob_iff, zar_iff, zis_iff, zkIs_some, zkHas_some, iI_vp, z01_I, z01_bz, zch_I, true_and, and_true, or_false, false_or, and_self, upI_same, upL_same, upI_ne, upL_ne, iI_ixN, zI_mk, zL_mk, zP_mk, zK_mk, zN_mk, zwI_up, zwL_up, zg_some, Nat.reduceMod, Nat.reduceDiv, zcn_I, iI_add, iI_sub, iI_mul, iI_neg, iI_lt, iI_le, iI_eq, iI_lt0, iI_le0, iI_gt0, iI_ge0, iI_eq0, b0] <;> omega) (by simp (disch := omega) only [eq_self, not_true_eq_false, not_false_eq_true, upI_same, upL_same, upI_ne, upL_ne, iI_ixN, zI_mk, zL_mk, zP_mk, zK_mk, zN_mk, zwI_up, zwL_up, zg_some, Nat.reduceMod, Nat.reduceDiv, zcn_I, iI_add, iI_sub, iI_mul, iI_neg, iI_lt, iI_le, iI_eq, iI_lt0, iI_le0, iI_gt0, iI_ge0, iI_eq0, r0] <;> omega) ?_
    exact zW.go [37] rfl (by omega) trivial (F _ (Or.inl ⟨q, zcn_I _⟩))
  · refine zW.gbt [] rfl rfl rfl (by omega) (by simp (disch := omega) only [true_or, or_true, eq_self, Option.some.injEq, Prod.mk.injEq, zall_0, zall_1, zall_2, zob_iff, zar_iff, zis_iff, zkIs_some, zkHas_some, iI_vp, z01_I, z01_bz, zch_I, true_and, and_true, or_false, false_or, and_self, upI_same, upL_same, upI_ne, upL_ne, iI_ixN, zI_mk, zL_mk, zP_mk, zK_mk, zN_mk, zwI_up, zwL_up, zg_some, Nat.reduceMod, Nat.reduceDiv, zcn_I, iI_add, iI_sub, iI_mul, iI_neg, iI_lt, iI_le, iI_eq, iI_lt0, iI_le0, iI_gt0, iI_ge0, iI_eq0, b0] <;> omega) (by simp (disch := omega) only [eq_self, not_true_eq_false, not_false_eq_true, upI_same, upL_same, upI_ne, upL_ne, iI_ixN, zI_mk, zL_mk, zP_mk, zK_mk, zN_mk, zwI_up, zwL_up, zg_some, Nat.reduceMod, Nat.reduceDiv, zcn_I, iI_add, iI_sub, iI_mul, iI_neg, iI_lt, iI_le, iI_eq, iI_lt0, iI_le0, iI_gt0, iI_ge0, iI_eq0, r0] <;> omega) ?_
    exact zW.go [37] rfl (by omega) trivial (F _ (Or.inr ⟨q, zcn_I _⟩))
end TMOV2
