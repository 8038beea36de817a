/-! The class scrambles. -/
def scz (s : Nat) : Nat := (s * 2654435761) ^^^ (s * 2654435761 / 2 ^ 15)
theorem scz_lt {s : Nat} (h : s ≤ 99999) : scz s < 2 ^ 49 := Nat.xor_lt_two_pow (by omega) (by omega)
theorem iL_xor (a b : Nat) : iL (a : Int) ^^^ iL (b : Int) = iL ((a ^^^ b : Nat) : Int) := by
  refine Int64.toBitVec_inj.mp ?_
  rw [Int64.toBitVec_xor, iL_bv, iL_bv, iL_bv]
  refine BitVec.eq_of_toNat_eq ?_
  simp only [BitVec.toNat_xor, BitVec.toNat_ofNat]
  exact (Nat.xor_mod_two_pow).symm
theorem iL_and63 {a : Nat} (h : a < 2 ^ 63) : iL (a : Int) &&& iL 9223372036854775807 = iL (a : Int) := by
  rw [show (9223372036854775807 : Int) = ((9223372036854775807 : Nat) : Int) from rfl]
  refine Int64.toBitVec_inj.mp ?_
  rw [Int64.toBitVec_and, iL_bv, iL_bv]
  refine BitVec.eq_of_toNat_eq ?_
  simp only [BitVec.toNat_and, BitVec.toNat_ofNat]
  have e1 : a % 2 ^ 64 = a := Nat.mod_eq_of_lt (by omega)
  rw [e1, show 9223372036854775807 % 2 ^ 64 = 2 ^ 63 - 1 by decide, Nat.and_two_pow_sub_one_eq_mod]
  exact Nat.mod_eq_of_lt h
theorem scz_val {s : Nat} (h : s ≤ 99999) : ((iL (s : Int) * iL 2654435761) ^^^ ((iL (s : Int) * iL 2654435761).toUInt64 >>> ((iI 15).toInt64.toUInt64 &&& Int64.toUInt64 63)).toInt64) &&& iL 9223372036854775807 = iL (scz s : Int) := by
  have e : iL (s : Int) * iL 2654435761 = iL ((s * 2654435761 : Nat) : Int) := (iL_mul _ _).trans (iL_cg (by omega))
  rw [e, lushr_N (by omega) (by omega) (by omega), show (15 : Int).toNat = 15 from rfl, iL_xor]
  exact iL_and63 (Nat.lt_trans (scz_lt h) (by decide))
section TSCR
variable {d x z : Nat} {pb rb : Nat → Nat} {T : tfT} {I : Nat → Nat → Int32} {L : Nat → Nat → Int64} {R : zRt} {Q : zO → zM → Prop}
noncomputable def oScr (T : tfT) (p s : Int) : tRes := onP T p fun i => if ¬ (0 ≤ s ∧ s ≤ 99999) then (2, 0, T) else (0, ((scz s.toNat % pzZ (tPz T i) : Nat) : Int), tSetP T i (pzSt (tPz T i) (stG (pzG (tPz T i)) (scz s.toNat % pzZ (tPz T i)))))
theorem scramble_ok {p s : Int} {a b : Int32} (hd : 8 ≤ d) (h : tfx x z T (I, L, R)) (e1 : a = iI p) (e2 : b = iI s) (h1 : i32 p) (h2 : i32 s) (hQ : tP x z (I, L, R) (oScr T p s) [3, 0] eL Q) : zS 118 d [zr (some x), zi a, zi b] (I, L, R) Q := by
  subst e1; subst e2
  have hT := h
  obtain ⟨pb, rb, hf⟩ := h
  refine zW.gc [] rfl rfl rfl (by omega) trivial ⟨_, rfl, tf_k0 hf⟩ (by decide +kernel) (by decide +kernel) ?_
  refine findP_ok (by omega) hf rfl h1 (fun hb N hN => ?_) (fun i hi hp => ?_)
  · exact tP_t hQ hT (if_pos hb) hN
  · subst hi
    unfold oScr at hQ
    rw [onP_i hp] at hQ
    obtain ⟨hL, hz, hR⟩ := tf_pz hf hp
    have hL' := hL
    obtain ⟨k0, p1, p2, p3, k1, hC, hG⟩ := hL'
    have ck := hC.1
    have z8 := chain_sz (zA_pm hz) hR.2.2.2.2.2.1
    have z8 : L (pb i + 2) 5 = iL (pzZ (tPz T i) : Int) := z8
    have hle : pzZ (tPz T i) ≤ 10 ^ 10 := szG_le (pzG (tPz T i)) 10
    have hpos : 1 ≤ pzZ (tPz T i) := szG_pos (zG_is hz) 10
    refine zW.gc [] rfl rfl rfl (by omega) trivial trivial (by decide +kernel) (by decide +kernel) ?_
    refine chkN_ok (hi := 99999) (by omega) rfl (zcn_I _) ?_ h2 ⟨by omega, by omega⟩ ⟨by omega, by omega⟩ (fun hb N hN => ?_) (fun g3 g4 => ?_)
    · decide +kernel
    · exact tP_t hQ hT (if_pos hb) hN
    rw [if_neg (fun n => n ⟨g3, g4⟩)] at hQ
    obtain ⟨s, rfl⟩ : ∃ k : Nat, s = k := ⟨s.toNat, by omega⟩
    rw [show ((s : Int)).toNat = s from rfl] at hQ
    have hs5 : s ≤ 99999 := by omega
    have z1 : Int64.ofInt (zldL 4156) = iL 2654435761 := by decide +kernel
    have z2 : Int64.ofInt (zldL 4157) = iL 9223372036854775807 := by decide +kernel
    have hlt := scz_lt hs5
    refine zW.gbf [] rfl rfl rfl (by omega) (by simp (disch := omega) only [true_or, or_true, eq_self, Option.some.injEq, Prod.mk.injEq, zall_0, zall_1, zall_2, zob_iff, zar_iff, zis_iff, zkIs_some, zkHas_some, iI_vp, z01_I, z01_bz, zch_I, true_and, and_true, or_false, false_or, and_self, upI_same, upL_same, upI_ne, upL_ne, iI_ixN, zI_mk, zL_mk, zP_mk, zK_mk, zN_mk, zwI_up, zwL_up, zg_some, Nat.reduceMod, Nat.reduceDiv, zcn_I, iI_add, iI_sub, iI_mul, iI_neg, iI_lt, iI_le, iI_eq, iI_lt0, iI_le0, iI_gt0, iI_ge0, iI_eq0, k0, p2, ck] <;> omega) ?_ ?_
    · rw [lg_cmp_le]
      simp only [upI_same, upL_same, upI_ne, upL_ne, iI_ixN, zI_mk, zL_mk, zP_mk, zK_mk, zN_mk, zwI_up, zwL_up, zg_some, Nat.reduceMod, Nat.reduceDiv, p2, z8, l0]
      rw [iL_le (by omega) (by omega) (by omega) (by omega)]
      omega
    rw [z1, z2, zcn_I, iI_L (by omega) (by omega), scz_val hs5]
    simp (disch := omega) only [upI_same, upL_same, upI_ne, upL_ne, iI_ixN, zI_mk, zL_mk, zP_mk, zK_mk, zN_mk, zwI_up, zwL_up, zg_some, Nat.reduceMod, Nat.reduceDiv, zcn_I, iI_add, iI_sub, iI_mul, iI_neg, iI_lt, iI_le, iI_eq, iI_lt0, iI_le0, iI_gt0, iI_ge0, iI_eq0, p2, z8]
    have hk : scz s % pzZ (tPz T i) < pzZ (tPz T i) := Nat.mod_lt _ (by omega)
    obtain ⟨s1, s2⟩ := stG_sp (zG_is hz) hk
    have hm : iL (scz s : Int) - iL (scz s : Int) / iL (pzZ (tPz T i) : Int) * iL (pzZ (tPz T i) : Int) = iL ((scz s % pzZ (tPz T i) : Nat) : Int) := by
      rw [iL_mod (by omega) (by omega) (by omega) (by omega)]
      exact iL_cg (Int.natCast_emod _ _).symm
    refine zW.gc [] rfl rfl rfl (by omega) ?_ ?_ (by decide +kernel) (by decide +kernel) ?_
    · refine ⟨⟨_, rfl, k0⟩, fun hc => ?_⟩
      have := (iL_eq (by omega) (by omega) (by omega) (by omega)).mp (hc.trans iL_0.symm)
      omega
    · simp (disch := omega) only [upI_same, upL_same, upI_ne, upL_ne, iI_ixN, zI_mk, zL_mk, zP_mk, zK_mk, zN_mk, zwI_up, zwL_up, zg_some, Nat.reduceMod, Nat.reduceDiv, zcn_I, iI_add, iI_sub, iI_mul, iI_neg, iI_lt, iI_le, iI_eq, iI_lt0, iI_le0, iI_gt0, iI_ge0, iI_eq0, p2]
      exact ⟨_, rfl, ck⟩
    simp (disch := omega) only [upI_same, upL_same, upI_ne, upL_ne, iI_ixN, zI_mk, zL_mk, zP_mk, zK_mk, zN_mk, zwI_up, zwL_up, zg_some, Nat.reduceMod, Nat.reduceDiv, zcn_I, iI_add, iI_sub, iI_mul, iI_neg, iI_lt, iI_le, iI_eq, iI_lt0, iI_le0, iI_gt0, iI_ge0, iI_eq0, p2]
    rw [hm]
    refine state_ok (s := stG (pzG (tPz T i)) (scz s % pzZ (tPz T i))) (by omega) hC (zA_pm hz) hR.2.2.2.2.2.1 s1 (congrArg (fun n : Nat => iL (n : Int)) s2.symm) ?_
    have hs := zG_pmn hz s1
    obtain ⟨k1', k2'⟩ := tf_st hf hp hs
    refine zW.gr [] rfl rfl rfl (by omega) (by simp (disch := omega) only [true_or, or_true, eq_self, Option.some.injEq, Prod.mk.injEq, zall_0, zall_1, zall_2, zob_iff, zar_iff, zis_iff, zkIs_some, zkHas_some, iI_vp, z01_I, z01_bz, zch_I, true_and, and_true, or_false, false_or, and_self, upI_same, upL_same, upI_ne, upL_ne, iI_ixN, zI_mk, zL_mk, zP_mk, zK_mk, zN_mk, zwI_up, zwL_up, zg_some, Nat.reduceMod, Nat.reduceDiv, zcn_I, iI_add, iI_sub, iI_mul, iI_neg, iI_lt, iI_le, iI_eq, iI_lt0, iI_le0, iI_gt0, iI_ge0, iI_eq0, k0] <;> omega) trivial ?_
    exact tP_0 hQ rfl ⟨_, _, k1'⟩ k2'
end TSCR
