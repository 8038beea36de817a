/-! The class counts orbits, asked. -/
theorem bts_un {M O : Nat} {A B : Nat → Bool} (h : bts M A) (k : bts O B) : bts (M ||| O) (fun p => A p || B p) := by
  refine ⟨Nat.or_lt_two_pow (n := 10) h.1 k.1, fun q hq => ?_⟩
  rw [Nat.testBit_or, h.2 q hq, k.2 q hq]
section TORB2
variable {d x z b n r : Nat} {tn : Nat → Nat → Nat} {col st : Nat → Nat} {T : tfT} {I : Nat → Nat → Int32} {L : Nat → Nat → Int64} {R : zRt} {Q : zO → zM → Prop}
theorem orbs_lp (hd : 4 ≤ d) (hL : ZL b R) (hz : zOK n r tn col st) (hR : zPR b I L n r tn col st) (hQ : Q (.inl (some (zi (iI (orbC (zG r tn) n : Int))))) (I, L, R)) :
    ∀ m k, k + m = n → ∀ (M : Nat) (A : Nat → Bool) (c s y : Int32) (v : Option zV), bts M A → (∀ p, p < 10 → (A p = true ↔ ∃ q, q < k ∧ orbR (zG r tn) q p)) → c = iI (orbC (zG r tn) k : Int) → s = iI (M : Int) → y = iI (k : Int) → zW 34 d 0 0 6 [some (zr (some b)), some (zi c), some (zi s), some (zi y), v] [] (I, L, R) Q
  | 0, k, hk, M, A, c, s, y, v, hb, hA, e1, e2, e3 => by
    subst e1; subst e2; subst e3
    have k0 := hL.1
    have r1 := hR.1
    have hn := hz.2.1
    obtain rfl : k = n := by omega
    refine zW.gbt [] rfl rfl rfl (by omega) (by simp (disch := omega) only [true_or, or_true, eq_self, Option.some.injEq, Prod.mk.injEq, zall_0, zall_1, zall_2, zob_iff, zar_iff, zis_iff, zkIs_some, zkHas_some, iI_vp, z01_I, z01_bz, zch_I, true_and, and_true, or_false, false_or, and_self, upI_same, upL_same, upI_ne, upL_ne, iI_ixN, zI_mk, zL_mk, zP_mk, zK_mk, zN_mk, zwI_up, zwL_up, zg_some, Nat.reduceMod, Nat.reduceDiv, zcn_I, iI_add, iI_sub, iI_mul, iI_neg, iI_lt, iI_le, iI_eq, iI_lt0, iI_le0, iI_gt0, iI_ge0, iI_eq0, k0] <;> omega) (by simp (disch := omega) only [eq_self, not_true_eq_false, not_false_eq_true, upI_same, upL_same, upI_ne, upL_ne, iI_ixN, zI_mk, zL_mk, zP_mk, zK_mk, zN_mk, zwI_up, zwL_up, zg_some, Nat.reduceMod, Nat.reduceDiv, zcn_I, iI_add, iI_sub, iI_mul, iI_neg, iI_lt, iI_le, iI_eq, iI_lt0, iI_le0, iI_gt0, iI_ge0, iI_eq0, r1] <;> omega) ?_
    exact zW.gr [] rfl rfl rfl (by omega) trivial trivial hQ
  | m + 1, k, hk, M, A, c, s, y, v, hb, hA, e1, e2, e3 => by
    subst e1; subst e2; subst e3
    have k0 := hL.1
    have r1 := hR.1
    have hn := hz.2.1
    have hG := zG_is hz
    have hle : orbC (zG r tn) k ≤ k := ct_le _ _
    have hs1 : orbC (zG r tn) (k + 1) = orbC (zG r tn) k + (if dc (orbL (zG r tn) k) = true then 1 else 0) := rfl
    refine zW.gbf [] rfl rfl rfl (by omega) (by simp (disch := omega) only [true_or, or_true, eq_self, Option.some.injEq, Prod.mk.injEq, zall_0, zall_1, zall_2, zob_iff, zar_iff, zis_iff, zkIs_some, zkHas_some, iI_vp, z01_I, z01_bz, zch_I, true_and, and_true, or_false, false_or, and_self, upI_same, upL_same, upI_ne, upL_ne, iI_ixN, zI_mk, zL_mk, zP_mk, zK_mk, zN_mk, zwI_up, zwL_up, zg_some, Nat.reduceMod, Nat.reduceDiv, zcn_I, iI_add, iI_sub, iI_mul, iI_neg, iI_lt, iI_le, iI_eq, iI_lt0, iI_le0, iI_gt0, iI_ge0, iI_eq0, k0] <;> omega) (by simp (disch := omega) only [eq_self, not_true_eq_false, not_false_eq_true, upI_same, upL_same, upI_ne, upL_ne, iI_ixN, zI_mk, zL_mk, zP_mk, zK_mk, zN_mk, zwI_up, zwL_up, zg_some, Nat.reduceMod, Nat.reduceDiv, zcn_I, iI_add, iI_sub, iI_mul, iI_neg, iI_lt, iI_le, iI_eq, iI_lt0, iI_le0, iI_gt0, iI_ge0, iI_eq0, r1] <;> omega) ?_
    cases hAk : A k with
    | true =>
      refine zW.gbt [] rfl rfl rfl (by omega) trivial ?_ ?_
      · rw [zcn_I, bit_at hb (by omega), hAk]
        decide +kernel
      obtain ⟨q, q1, q2⟩ := (hA k (by omega)).mp hAk
      have hno : ¬ orbL (zG r tn) k := fun h => by
        have := h.1 q (orbR_sy hG q2)
        omega
      rw [dc_f.mpr hno] at hs1
      refine zW.go [6] rfl (by omega) trivial ?_
      refine orbs_lp hd hL hz hR hQ m (k + 1) (by omega) M A _ _ _ _ hb (fun p hp => ⟨fun h => ?_, fun ⟨u, u1, u2⟩ => ?_⟩) (by rw [hs1]; rfl) rfl (by rw [zcn_I, iI_add]; rfl)
      · obtain ⟨u, u1, u2⟩ := (hA p hp).mp h
        exact ⟨u, by omega, u2⟩
      · by_cases c : u = k
        · rw [c] at u2
          exact (hA p hp).mpr ⟨q, q1, orbR_tr hG q2 u2⟩
        · exact (hA p hp).mpr ⟨u, by omega, u2⟩
    | false =>
      refine zW.gbf [] rfl rfl rfl (by omega) trivial ?_ ?_
      · intro h
        refine h ?_
        rw [zcn_I, bit_at hb (by omega), hAk]
        rfl
      refine zW.gz [] rfl rfl rfl (by omega) trivial ⟨_, rfl, k0⟩ rfl rfl (Nat.le_refl _) (Nat.le_refl _) ?_
      refine orbOf_ok (by omega) hL hz hR rfl (by omega) (fun O B hO hB => ?_)
      have hB1 := hO.1
      have hM1 := hb.1
      refine zW.gz [] rfl rfl rfl (by omega) trivial trivial rfl rfl (Nat.le_refl _) (Nat.le_refl _) ?_
      refine bitCount_ok (by omega) rfl hO.1 ?_
      rw [ct_cg (b := B) (fun p hp => hO.2 p hp)]
      have hct := ct_le B 10
      have hkB : B k = true := (hB k (by omega)).mpr (orbR_rf hG k)
      have hl : orbL (zG r tn) k ↔ 1 < ct B 10 := by
        rw [ct_two (by omega) hkB]
        constructor
        · rintro ⟨-, j, j1, j2⟩
          have hj := orbR_lt hG (show k < 10 by omega) j2
          exact ⟨j, hj, j1, (hB j hj).mpr j2⟩
        · rintro ⟨j, j1, j2, j3⟩
          refine ⟨fun u hu => ?_, j, j2, (hB j j1).mp j3⟩
          by_cases c : u < k
          · have := (hA k (by omega)).mpr ⟨u, c, orbR_sy hG hu⟩
            rw [hAk] at this
            cases this
          · omega
      have hun := bts_un hb hO
      have hA' : ∀ p, p < 10 → ((A p || B p) = true ↔ ∃ q, q < k + 1 ∧ orbR (zG r tn) q p) := fun p hp => by
        rw [Bool.or_eq_true, hA p hp, hB p hp]
        constructor
        · rintro (⟨u, u1, u2⟩ | h)
          · exact ⟨u, by omega, u2⟩
          · exact ⟨k, by omega, h⟩
        · rintro ⟨u, u1, u2⟩
          by_cases c : u = k
          · rw [c] at u2
            exact Or.inr u2
          · exact Or.inl ⟨u, by omega, u2⟩
      by_cases h1 : 1 < ct B 10
      · rw [dc_t.mpr (hl.mpr h1)] at hs1
        refine zW.gbf [] rfl rfl rfl (by omega) trivial (by simp (disch := omega) only [eq_self, not_true_eq_false, not_false_eq_true, upI_same, upL_same, upI_ne, upL_ne, iI_ixN, zI_mk, zL_mk, zP_mk, zK_mk, zN_mk, zwI_up, zwL_up, zg_some, Nat.reduceMod, Nat.reduceDiv, zcn_I, iI_add, iI_sub, iI_mul, iI_neg, iI_lt, iI_le, iI_eq, iI_lt0, iI_le0, iI_gt0, iI_ge0, iI_eq0] <;> omega) ?_
        refine zW.go [6] rfl (by omega) trivial ?_
        exact orbs_lp hd hL hz hR hQ m (k + 1) (by omega) _ _ _ _ _ _ hun hA' (by rw [hs1, zcn_I, iI_add]; rfl) (iI_or _ _) (by rw [zcn_I, iI_add]; rfl)
      · rw [dc_f.mpr (fun q => h1 (hl.mp q))] at hs1
        refine zW.gbt [] rfl rfl rfl (by omega) trivial (by simp (disch := omega) only [eq_self, not_true_eq_false, not_false_eq_true, upI_same, upL_same, upI_ne, upL_ne, iI_ixN, zI_mk, zL_mk, zP_mk, zK_mk, zN_mk, zwI_up, zwL_up, zg_some, Nat.reduceMod, Nat.reduceDiv, zcn_I, iI_add, iI_sub, iI_mul, iI_neg, iI_lt, iI_le, iI_eq, iI_lt0, iI_le0, iI_gt0, iI_ge0, iI_eq0] <;> omega) ?_
        refine zW.go [6] rfl (by omega) trivial ?_
        exact orbs_lp hd hL hz hR hQ m (k + 1) (by omega) _ _ _ _ _ _ hun hA' (by rw [hs1, zcn_I, iI_add]; rfl) (iI_or _ _) (by rw [zcn_I, iI_add]; rfl)
noncomputable def oOrbs (T : tfT) (p : Int) : tRes := onP T p fun i => (0, (orbC (pzG (tPz T i)) (pzN (tPz T i)) : Nat), T)
theorem orbits_ok {p : Int} {a : Int32} (hd : 8 ≤ d) (h : tfx x z T (I, L, R)) (e1 : a = iI p) (h1 : i32 p) (hQ : tP x z (I, L, R) (oOrbs T p) [3] eI Q) : zS 114 d [zr (some x), zi a] (I, L, R) Q := by
  subst e1
  have hT := h
  obtain ⟨pb, rb, hf⟩ := h
  refine zW.gc [] rfl rfl rfl (by omega) trivial ⟨_, rfl, tf_k0 hf⟩ (by decide +kernel) (by decide +kernel) ?_
  refine findP_ok (by omega) hf rfl h1 (fun hb N hN => ?_) (fun i hi hp => ?_)
  · exact tP_t hQ hT (if_pos hb) hN
  · subst hi
    unfold oOrbs at hQ
    rw [onP_i hp] at hQ
    obtain ⟨hL, hz, hR⟩ := tf_pz hf hp
    have b0 := hL.1
    refine zW.gz [] rfl rfl rfl (by omega) trivial ⟨_, rfl, b0⟩ rfl rfl (by decide +kernel) (by decide +kernel) ?_
    refine zS.of (zW.go [6] rfl (by omega) trivial ?_)
    refine orbs_lp (by omega) hL hz hR ?_ (pzN (tPz T i)) 0 (by omega) 0 (fun _ => false) _ _ _ _ bts_0 (fun p _ => ⟨fun q => (by cases q), fun ⟨q, q1, _⟩ => absurd q1 (Nat.not_lt_zero q)⟩) (zcn_I _) (zcn_I _) (zcn_I _)
    refine zW.gr [] rfl rfl rfl (by omega) trivial trivial ?_
    exact tP_0 hQ rfl hT tfr_rf
end TORB2
