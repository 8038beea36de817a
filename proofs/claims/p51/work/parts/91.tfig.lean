/-! The class's figures: shares, means. -/
section TFIG
variable {d x z : Nat} {pb rb : Nat → Nat} {T : tfT} {I : Nat → Nat → Int32} {L : Nat → Nat → Int64} {R : zRt} {Q : zO → zM → Prop}
theorem smd_rg {f : Nat → Int} : ∀ {n : Nat}, (∀ i, i < n → 0 ≤ f i ∧ f i < 1000) → 0 ≤ smd f n ∧ smd f n ≤ 1000 * n
  | 0, _ => ⟨Int.le_refl _, Int.le_refl _⟩
  | n + 1, h => by
    have h1 := smd_rg (f := f) (n := n) (fun i hi => h i (by omega))
    have h2 := h n (by omega)
    show 0 ≤ smd f n + f n ∧ smd f n + f n ≤ _
    omega
theorem pzF_rg {w : zPz} (hz : zOK (pzN w) (pzR w) (pzT w) (pzC w) (pzS w)) (h8 : pzZ w ≤ 800) {k s : Nat} (hs : s < pzZ w) : 0 ≤ pzF k w s ∧ pzF k w s < 1000 := by
  have e := zBF_all hz h8 (k := k) rfl hs
  have e2 := (bI_rng (zB_I hz (k := k) rfl) h8 hs).2
  rw [fF_eq (zBF k (pzR w) (pzT w) (pzC w))] at e e2
  exact ⟨e, e2⟩
noncomputable def oMean (T : tfT) (p c : Int) : tRes := onG T p c fun i k => sml T i (0, smd (pzF k (tPz T i)) (pzZ (tPz T i)), T)
noncomputable def eD (n : Nat) (v : Int) : zV := zd (FP.ddiv (FP.l2d (iL v)) (FP.l2d (iL (n : Int))))
theorem mean_ok {p c : Int} {a b : Int32} (hd : 9 ≤ d) (h : tfx x z T (I, L, R)) (e1 : a = iI p) (e2 : b = iI c) (h1 : i32 p) (h2 : i32 c) (hQ : tP x z (I, L, R) (oMean T p c) [3, 0, 1] (eD (pzZ (tPz T p.toNat))) Q) : zS 144 d [zr (some x), zi a, zi b] (I, L, R) Q := by
  subst e1; subst e2
  have hT := h
  obtain ⟨pb, rb, hf⟩ := h
  refine zW.gc [] rfl rfl rfl (by omega) trivial ⟨_, rfl, tf_k0 hf⟩ (by decide +kernel) (by decide +kernel) ?_
  refine findP_ok (by omega) hf rfl h1 (fun hb N hN => ?_) (fun i hi hp => ?_)
  · exact tP_t hQ hT (if_pos hb) hN
  · subst hi
    unfold oMean onG at hQ
    rw [onP_i hp] at hQ
    rw [show ((i : Int)).toNat = i from rfl] at hQ
    obtain ⟨hL, hz, hR⟩ := tf_pz hf hp
    have b0 := hL.1
    have p2 := hL.2.2.1
    have ck := hL.2.2.2.2.2.1.1
    have F : ∀ (k : Nat) (y : Int32), k < 2 → y = iI (k : Int) → (¬ ¬ (c = 113 ∨ c = 116)) → (if c = 113 then 0 else 1) = k → zW 144 d (0 + zmc 147 + zmc 154) (0 + zms 147 + zms 154) 10 [some (zr (some x)), some (zi (iI (i : Int))), some (zi (iI c)), some (zr (some (pb i))), none, none, none, none, none] [zi y] (I, L, R) Q := by
      intro k y hk ey hc1 hck
      subst ey
      rw [if_neg hc1, hck] at hQ
      dsimp only at hQ
      refine zW.gc [] rfl rfl rfl (by omega) trivial trivial (by decide +kernel) (by decide +kernel) ?_
      refine chkS_ok (by omega) hL hz hR (fun hb N hN => ?_) (fun h8 => ?_)
      · exact tP_t hQ hT (sml_f hb) hN
      rw [sml_t h8] at hQ
      refine zW.gc [] rfl rfl rfl (by omega) trivial ⟨_, rfl, b0⟩ (by decide +kernel) (by decide +kernel) ?_
      refine measured_ok (by omega) hL hz hR h8 hk rfl (fun I' L' f hR' hD hI' => ?_)
      obtain ⟨k1, k2⟩ := tf_same hf hp f hR'
      have gk := hL.2.2.2.2.2.2.1
      refine zW.gc [] rfl rfl rfl (by omega) trivial ⟨_, rfl, gk⟩ (by decide +kernel) (by decide +kernel) ?_
      have hrg : ∀ s, s < szG (zG (pzR (tPz T i)) (pzT (tPz T i))) 10 → -1 ≤ pzF k (tPz T i) s ∧ pzF k (tPz T i) s < 1000 := fun s hs => zBF_rng hD hs
      have hI2 : ∀ s, s < szG (zG (pzR (tPz T i)) (pzT (tPz T i))) 10 → I' (pb i + 19 + k) s = iI (pzF k (tPz T i) s) := fun s hs => by
        have e := hI' s hs
        rw [fF_eq (zBF k (pzR (tPz T i)) (pzT (tPz T i)) (pzC (tPz T i)))] at e
        exact e
      refine sum_ok (k := k) (f := pzF k (tPz T i)) (by omega) hL.2.2.2.2.2.2 (by omega) rfl h8 hD.2.1.2.2.1 (fun s hs => ?_) hrg ?_
      · rw [show pb i + 7 + 12 + k = pb i + 19 + k by omega]
        exact hI2 s hs
      have z8 := chain_sz (zA_pm hz) hR'.2.2.2.2.2.1
      have z8 : L' (pb i + 2) 5 = iL (pzZ (tPz T i) : Int) := z8
      have z9 := szG_pos (zG_is hz) 10
      have z9 : 1 ≤ pzZ (tPz T i) := z9
      have h8' : pzZ (tPz T i) ≤ 800 := h8
      obtain ⟨s1, s2⟩ := smd_rg (f := pzF k (tPz T i)) (n := pzZ (tPz T i)) (fun s hs => pzF_rg hz h8 hs)
      refine zW.gbf [] rfl rfl rfl (by omega) (by simp (disch := omega) only [true_or, or_true, eq_self, Option.some.injEq, Prod.mk.injEq, zall_0, zall_1, zall_2, zob_iff, zar_iff, zis_iff, zkIs_some, zkHas_some, iI_vp, z01_I, z01_bz, zch_I, true_and, and_true, or_false, false_or, and_self, upI_same, upL_same, upI_ne, upL_ne, iI_ixN, zI_mk, zL_mk, zP_mk, zK_mk, zN_mk, zwI_up, zwL_up, zg_some, Nat.reduceMod, Nat.reduceDiv, zcn_I, iI_add, iI_sub, iI_mul, iI_neg, iI_lt, iI_le, iI_eq, iI_lt0, iI_le0, iI_gt0, iI_ge0, iI_eq0, b0, p2, ck] <;> omega) ?_ ?_
      · rw [lg_cmp_le]
        simp only [upI_same, upL_same, upI_ne, upL_ne, iI_ixN, zI_mk, zL_mk, zP_mk, zK_mk, zN_mk, zwI_up, zwL_up, zg_some, Nat.reduceMod, Nat.reduceDiv, p2, z8, l0]
        rw [iL_le (by omega) (by omega) (by omega) (by omega)]
        omega
      simp (disch := omega) only [upI_same, upL_same, upI_ne, upL_ne, iI_ixN, zI_mk, zL_mk, zP_mk, zK_mk, zN_mk, zwI_up, zwL_up, zg_some, Nat.reduceMod, Nat.reduceDiv, zcn_I, iI_add, iI_sub, iI_mul, iI_neg, iI_lt, iI_le, iI_eq, iI_lt0, iI_le0, iI_gt0, iI_ge0, iI_eq0, p2, z8]
      obtain ⟨q, hq⟩ : ∃ q : Nat, smd (pzF k (tPz T i)) (pzZ (tPz T i)) = q := ⟨(smd (pzF k (tPz T i)) (pzZ (tPz T i))).toNat, by omega⟩
      rw [hq] at hQ s2 ⊢
      refine zW.gr [] rfl rfl rfl (by omega) (n64_quo (s := q) (by omega) (by omega) (by omega)) trivial ?_
      exact tP_0 hQ rfl ⟨_, _, k1⟩ k2
    refine zW.gc [] rfl rfl rfl (by omega) trivial trivial (by decide +kernel) (by decide +kernel) ?_
    refine kind_ok (by omega) rfl h2 (fun hb N hN => ?_) (fun g => ?_) (fun g => ?_)
    · exact tP_t hQ hT (if_pos hb) hN
    · exact F 0 _ (by omega) rfl (fun n => n (Or.inl g)) (if_pos g)
    · exact F 1 _ (by omega) rfl (fun n => n (Or.inr g)) (if_neg (by omega))
end TFIG
