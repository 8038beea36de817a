/-! A puzzle is made. -/
theorem Gm_none {f : Nat → Nat} (h : Gm (fun _ => False) f) : f = fun p => p := h (fun f => f = fun p => p) rfl (fun _ q => q.elim) (fun f g a b => by rw [a, b])
theorem zA_0 (tn : Nat → Nat → Nat) : (fun _ : Nat → Nat => False) = zA 0 tn := by
  funext h
  refine propext ⟨fun q => q.elim, ?_⟩
  rintro ⟨i, hi, -⟩
  exact absurd hi (Nat.not_lt_zero i)
theorem CL_cg {c : Nat} {R R' : zRt} (h : ∀ a, c ≤ a → a ≤ c + 4 → R'.2.1 a = R.2.1 a ∧ R'.1 a = R.1 a) (hC : CL c R) : CL c R' := by
  obtain ⟨k0, p0, p1, p2, p3, k1, k2, k3, k4⟩ := hC
  have e0 := h c (by omega) (by omega)
  refine ⟨by rw [e0.1]; exact k0, by rw [e0.2]; exact p0, by rw [e0.2]; exact p1, by rw [e0.2]; exact p2, by rw [e0.2]; exact p3, ?_, ?_, ?_, ?_⟩
  · rw [(h _ (by omega) (by omega)).1]
    exact k1
  · rw [(h _ (by omega) (by omega)).1]
    exact k2
  · rw [(h _ (by omega) (by omega)).1]
    exact k3
  · rw [(h _ (by omega) (by omega)).1]
    exact k4
theorem GL_cg {g : Nat} {R R' : zRt} (h : ∀ a, g ≤ a → a < g + 17 → R'.2.1 a = R.2.1 a ∧ R'.1 a = R.1 a) (hG : GL g R) : GL g R' := by
  obtain ⟨k0, p0, p1, p2, p3, p4, k1, k2, k3, k4, k5, k6, k7⟩ := hG
  have e0 := h g (by omega) (by omega)
  refine ⟨by rw [e0.1]; exact k0, by rw [e0.2]; exact p0, by rw [e0.2]; exact p1, by rw [e0.2]; exact p2, by rw [e0.2]; exact p3, by rw [e0.2]; exact p4, ?_, ?_, ?_, ?_, ?_, fun i hi => ⟨?_, ?_⟩, fun i hi => ⟨?_, ?_⟩⟩
  · rw [(h _ (by omega) (by omega)).1]
    exact k1
  · rw [(h _ (by omega) (by omega)).1]
    exact k2
  · rw [(h _ (by omega) (by omega)).1]
    exact k3
  · rw [(h _ (by omega) (by omega)).1]
    exact k4
  · rw [(h _ (by omega) (by omega)).1]
    exact k5
  · rw [(h _ (by omega) (by omega)).2]
    exact (k6 i hi).1
  · rw [(h _ (by omega) (by omega)).1]
    exact (k6 i hi).2
  · rw [(h _ (by omega) (by omega)).2]
    exact (k7 i hi).1
  · rw [(h _ (by omega) (by omega)).1]
    exact (k7 i hi).2
theorem ZL_cg {b : Nat} {R R' : zRt} (h : ∀ a, b ≤ a → a < b + 24 → R'.2.1 a = R.2.1 a ∧ R'.1 a = R.1 a) (hZ : ZL b R) : ZL b R' := by
  obtain ⟨k0, p1, p2, p3, k1, hC, hG⟩ := hZ
  have e0 := h b (by omega) (by omega)
  refine ⟨by rw [e0.1]; exact k0, by rw [e0.2]; exact p1, by rw [e0.2]; exact p2, by rw [e0.2]; exact p3, ?_, CL_cg (fun a q1 q2 => h a (by omega) (by omega)) hC, GL_cg (fun a q1 q2 => h a (by omega) (by omega)) hG⟩
  rw [(h _ (by omega) (by omega)).1]
  exact k1
section PINIT
variable {d b n : Nat} {I : Nat → Nat → Int32} {L : Nat → Nat → Int64} {R : zRt} {Q : zO → zM → Prop}
theorem pinit_ok {x : Int32} (hd : 4 ≤ d) (hN : R.2.2 = b + 1) (hK : R.2.1 b = some (2, 0)) (hI : I b = fun _ => 0) (e : x = iI (n : Int)) (h3 : 3 ≤ n) (h10 : n ≤ 10)
    (hQ : ∀ I' L' R', zfr b I L I' L' → zol b R R' → R'.2.2 = b + 24 → ZL b R' → zOK n 0 (fun _ p => p) (fun p => p) (fun p => p) → zPR b I' L' n 0 (fun _ p => p) (fun p => p) (fun p => p) → Q (.inl none) (I', L', R')) : zS 24 d [zr (some b), zi x] (I, L, R) Q := by
  subst e
  refine zW.go [4] rfl (by omega) ?_ ?_
  · exact ⟨_, rfl⟩
  refine zW.gm [] rfl rfl rfl (by omega) ?_ ⟨show ¬ zcn 8 < 0 by decide, show (zcn 8).toNatClampNeg < 1000000 by decide⟩ (by decide +kernel) (by decide +kernel) (fun f1 => ?_)
  · exact ⟨_, rfl, hK⟩
  simp (disch := omega) only [Nat.add_assoc, iI_ix, Int.toNat_natCast, Int.reduceToNat, Nat.reduceAdd, znew_up, zwP_up, nwR_P, nwR_N, nwR_Ks, nwR_Ko, pwR_R, pwR_s, pwR_o, upI_same, upL_same, upI_ne, upL_ne, iI_ixN, zI_mk, zL_mk, zP_mk, zK_mk, zN_mk, zwI_up, zwL_up, zg_some, Nat.reduceMod, Nat.reduceDiv, zcn_I, hN]
  refine zW.gm [] rfl rfl rfl (by omega) ?_ trivial (by decide +kernel) (by decide +kernel) (fun f2 => ?_)
  · exact ⟨⟨_, rfl, by simp (disch := omega) only [Nat.add_assoc, iI_ix, Int.toNat_natCast, Int.reduceToNat, Nat.reduceAdd, znew_up, zwP_up, nwR_P, nwR_N, nwR_Ks, nwR_Ko, pwR_R, pwR_s, pwR_o, upI_same, upL_same, upI_ne, upL_ne, iI_ixN, zI_mk, zL_mk, zP_mk, zK_mk, zN_mk, zwI_up, zwL_up, zg_some, Nat.reduceMod, Nat.reduceDiv, zcn_I, hK]⟩, Or.inr ⟨_, rfl⟩⟩
  have q2 : (upI I b 0 (iI (n : Int))) (b + 2) = fun _ => 0 := by
    simp (disch := omega) only [Nat.add_assoc, iI_ix, Int.toNat_natCast, Int.reduceToNat, Nat.reduceAdd, znew_up, zwP_up, nwR_P, nwR_N, nwR_Ks, nwR_Ko, pwR_R, pwR_s, pwR_o, upI_same, upL_same, upI_ne, upL_ne, iI_ixN, zI_mk, zL_mk, zP_mk, zK_mk, zN_mk, zwI_up, zwL_up, zg_some, Nat.reduceMod, Nat.reduceDiv, zcn_I, hN] at f2
    exact fresh_I f2
  simp (disch := omega) only [Nat.add_assoc, iI_ix, Int.toNat_natCast, Int.reduceToNat, Nat.reduceAdd, znew_up, zwP_up, nwR_P, nwR_N, nwR_Ks, nwR_Ko, pwR_R, pwR_s, pwR_o, upI_same, upL_same, upI_ne, upL_ne, iI_ixN, zI_mk, zL_mk, zP_mk, zK_mk, zN_mk, zwI_up, zwL_up, zg_some, Nat.reduceMod, Nat.reduceDiv, zcn_I, hN]
  refine zW.gc [] rfl rfl rfl (by omega) trivial ?_ (by decide +kernel) (by decide +kernel) ?_
  · exact ⟨_, rfl, (by simp (disch := omega) only [Nat.add_assoc, iI_ix, Int.toNat_natCast, Int.reduceToNat, Nat.reduceAdd, znew_up, zwP_up, nwR_P, nwR_N, nwR_Ks, nwR_Ko, pwR_R, pwR_s, pwR_o, upI_same, upL_same, upI_ne, upL_ne, iI_ixN, zI_mk, zL_mk, zP_mk, zK_mk, zN_mk, zwI_up, zwL_up, zg_some, Nat.reduceMod, Nat.reduceDiv, zcn_I]; rfl)⟩
  refine cinit_ok (c := b + 2) (by omega) (by simp (disch := omega) only [Nat.add_assoc, iI_ix, Int.toNat_natCast, Int.reduceToNat, Nat.reduceAdd, znew_up, zwP_up, nwR_P, nwR_N, nwR_Ks, nwR_Ko, pwR_R, pwR_s, pwR_o, upI_same, upL_same, upI_ne, upL_ne, iI_ixN, zI_mk, zL_mk, zP_mk, zK_mk, zN_mk, zwI_up, zwL_up, zg_some, Nat.reduceMod, Nat.reduceDiv, zcn_I]) (by simp (disch := omega) only [Nat.add_assoc, iI_ix, Int.toNat_natCast, Int.reduceToNat, Nat.reduceAdd, znew_up, zwP_up, nwR_P, nwR_N, nwR_Ks, nwR_Ko, pwR_R, pwR_s, pwR_o, upI_same, upL_same, upI_ne, upL_ne, iI_ixN, zI_mk, zL_mk, zP_mk, zK_mk, zN_mk, zwI_up, zwL_up, zg_some, Nat.reduceMod, Nat.reduceDiv, zcn_I]) (by rw [q2]) (fun L3 R3 g1 g2 g3 g4 g5 g6 => ?_)
  have K3 : R3.2.1 b = some (2, 0) := by
    rw [(g2 b (by omega)).2]
    simp (disch := omega) only [Nat.add_assoc, iI_ix, Int.toNat_natCast, Int.reduceToNat, Nat.reduceAdd, znew_up, zwP_up, nwR_P, nwR_N, nwR_Ks, nwR_Ko, pwR_R, pwR_s, pwR_o, upI_same, upL_same, upI_ne, upL_ne, iI_ixN, zI_mk, zL_mk, zP_mk, zK_mk, zN_mk, zwI_up, zwL_up, zg_some, Nat.reduceMod, Nat.reduceDiv, zcn_I, hK]
  refine zW.gm [] rfl rfl rfl (by omega) ?_ trivial (by decide +kernel) (by decide +kernel) (fun f4 => ?_)
  · exact ⟨⟨_, rfl, K3⟩, Or.inr ⟨_, rfl⟩⟩
  have q4 : (upI I b 0 (iI (n : Int))) (b + 7) = fun _ => 0 := by
    simp (disch := omega) only [Nat.add_assoc, iI_ix, Int.toNat_natCast, Int.reduceToNat, Nat.reduceAdd, znew_up, zwP_up, nwR_P, nwR_N, nwR_Ks, nwR_Ko, pwR_R, pwR_s, pwR_o, upI_same, upL_same, upI_ne, upL_ne, iI_ixN, zI_mk, zL_mk, zP_mk, zK_mk, zN_mk, zwI_up, zwL_up, zg_some, Nat.reduceMod, Nat.reduceDiv, zcn_I, g4] at f4
    exact fresh_I f4
  simp (disch := omega) only [Nat.add_assoc, iI_ix, Int.toNat_natCast, Int.reduceToNat, Nat.reduceAdd, znew_up, zwP_up, nwR_P, nwR_N, nwR_Ks, nwR_Ko, pwR_R, pwR_s, pwR_o, upI_same, upL_same, upI_ne, upL_ne, iI_ixN, zI_mk, zL_mk, zP_mk, zK_mk, zN_mk, zwI_up, zwL_up, zg_some, Nat.reduceMod, Nat.reduceDiv, zcn_I, g4]
  refine zW.gc [] rfl rfl rfl (by omega) trivial ?_ (by decide +kernel) (by decide +kernel) ?_
  · exact ⟨_, rfl, (by simp (disch := omega) only [Nat.add_assoc, iI_ix, Int.toNat_natCast, Int.reduceToNat, Nat.reduceAdd, znew_up, zwP_up, nwR_P, nwR_N, nwR_Ks, nwR_Ko, pwR_R, pwR_s, pwR_o, upI_same, upL_same, upI_ne, upL_ne, iI_ixN, zI_mk, zL_mk, zP_mk, zK_mk, zN_mk, zwI_up, zwL_up, zg_some, Nat.reduceMod, Nat.reduceDiv, zcn_I]; rfl)⟩
  refine ginit_ok (g := b + 7) (by omega) (by simp (disch := omega) only [Nat.add_assoc, iI_ix, Int.toNat_natCast, Int.reduceToNat, Nat.reduceAdd, znew_up, zwP_up, nwR_P, nwR_N, nwR_Ks, nwR_Ko, pwR_R, pwR_s, pwR_o, upI_same, upL_same, upI_ne, upL_ne, iI_ixN, zI_mk, zL_mk, zP_mk, zK_mk, zN_mk, zwI_up, zwL_up, zg_some, Nat.reduceMod, Nat.reduceDiv, zcn_I]) (by simp (disch := omega) only [Nat.add_assoc, iI_ix, Int.toNat_natCast, Int.reduceToNat, Nat.reduceAdd, znew_up, zwP_up, nwR_P, nwR_N, nwR_Ks, nwR_Ko, pwR_R, pwR_s, pwR_o, upI_same, upL_same, upI_ne, upL_ne, iI_ixN, zI_mk, zL_mk, zP_mk, zK_mk, zN_mk, zwI_up, zwL_up, zg_some, Nat.reduceMod, Nat.reduceDiv, zcn_I]) (fun R5 u1 u2 u3 u4 u5 => ?_)
  have K5 : R5.2.1 b = some (2, 0) := by
    rw [(u1 b (by omega)).2]
    simp (disch := omega) only [Nat.add_assoc, iI_ix, Int.toNat_natCast, Int.reduceToNat, Nat.reduceAdd, znew_up, zwP_up, nwR_P, nwR_N, nwR_Ks, nwR_Ko, pwR_R, pwR_s, pwR_o, upI_same, upL_same, upI_ne, upL_ne, iI_ixN, zI_mk, zL_mk, zP_mk, zK_mk, zN_mk, zwI_up, zwL_up, zg_some, Nat.reduceMod, Nat.reduceDiv, zcn_I, K3]
  have z1 : Int64.ofInt (zldL 3062) = iL 4886718345 := by decide +kernel
  refine zW.gr [] rfl rfl rfl (by omega) ?_ trivial ?_
  · refine ⟨?_, ?_, ?_⟩
    · exact ⟨_, rfl, K5⟩
    · exact ⟨_, rfl, K5⟩
    · exact ⟨⟨_, rfl, K5⟩, Or.inr ⟨_, rfl⟩⟩
  rw [z1]
  simp (disch := omega) only [Nat.add_assoc, iI_ix, Int.toNat_natCast, Int.reduceToNat, Nat.reduceAdd, znew_up, zwP_up, nwR_P, nwR_N, nwR_Ks, nwR_Ko, pwR_R, pwR_s, pwR_o, upI_same, upL_same, upI_ne, upL_ne, iI_ixN, zI_mk, zL_mk, zP_mk, zK_mk, zN_mk, zwI_up, zwL_up, zg_some, Nat.reduceMod, Nat.reduceDiv, zcn_I]
  have P3 : R3.1 b = _ := (g2 b (by omega)).1
  have P5 : R5.1 b = _ := (u1 b (by omega)).1
  have hZL : ZL b (pwR R5 b 3 (some (b + 7))) := by
    refine ⟨?_, ?_, ?_, ?_, ?_, CL_cg (fun a q1 q2 => ⟨?_, ?_⟩) g5, GL_cg (fun a q1 q2 => ⟨?_, ?_⟩) u4⟩
    · simp (disch := omega) only [Nat.add_assoc, iI_ix, Int.toNat_natCast, Int.reduceToNat, Nat.reduceAdd, znew_up, zwP_up, nwR_P, nwR_N, nwR_Ks, nwR_Ko, pwR_R, pwR_s, pwR_o, upI_same, upL_same, upI_ne, upL_ne, iI_ixN, zI_mk, zL_mk, zP_mk, zK_mk, zN_mk, zwI_up, zwL_up, zg_some, Nat.reduceMod, Nat.reduceDiv, zcn_I]
      exact K5
    · rw [pwR_o (by omega), P5]
      simp (disch := omega) only [Nat.add_assoc, iI_ix, Int.toNat_natCast, Int.reduceToNat, Nat.reduceAdd, znew_up, zwP_up, nwR_P, nwR_N, nwR_Ks, nwR_Ko, pwR_R, pwR_s, pwR_o, upI_same, upL_same, upI_ne, upL_ne, iI_ixN, zI_mk, zL_mk, zP_mk, zK_mk, zN_mk, zwI_up, zwL_up, zg_some, Nat.reduceMod, Nat.reduceDiv, zcn_I]
      rw [P3]
      simp (disch := omega) only [Nat.add_assoc, iI_ix, Int.toNat_natCast, Int.reduceToNat, Nat.reduceAdd, znew_up, zwP_up, nwR_P, nwR_N, nwR_Ks, nwR_Ko, pwR_R, pwR_s, pwR_o, upI_same, upL_same, upI_ne, upL_ne, iI_ixN, zI_mk, zL_mk, zP_mk, zK_mk, zN_mk, zwI_up, zwL_up, zg_some, Nat.reduceMod, Nat.reduceDiv, zcn_I]
    · rw [pwR_o (by omega), P5]
      simp (disch := omega) only [Nat.add_assoc, iI_ix, Int.toNat_natCast, Int.reduceToNat, Nat.reduceAdd, znew_up, zwP_up, nwR_P, nwR_N, nwR_Ks, nwR_Ko, pwR_R, pwR_s, pwR_o, upI_same, upL_same, upI_ne, upL_ne, iI_ixN, zI_mk, zL_mk, zP_mk, zK_mk, zN_mk, zwI_up, zwL_up, zg_some, Nat.reduceMod, Nat.reduceDiv, zcn_I]
    · simp (disch := omega) only [Nat.add_assoc, iI_ix, Int.toNat_natCast, Int.reduceToNat, Nat.reduceAdd, znew_up, zwP_up, nwR_P, nwR_N, nwR_Ks, nwR_Ko, pwR_R, pwR_s, pwR_o, upI_same, upL_same, upI_ne, upL_ne, iI_ixN, zI_mk, zL_mk, zP_mk, zK_mk, zN_mk, zwI_up, zwL_up, zg_some, Nat.reduceMod, Nat.reduceDiv, zcn_I]
    · simp (disch := omega) only [Nat.add_assoc, iI_ix, Int.toNat_natCast, Int.reduceToNat, Nat.reduceAdd, znew_up, zwP_up, nwR_P, nwR_N, nwR_Ks, nwR_Ko, pwR_R, pwR_s, pwR_o, upI_same, upL_same, upI_ne, upL_ne, iI_ixN, zI_mk, zL_mk, zP_mk, zK_mk, zN_mk, zwI_up, zwL_up, zg_some, Nat.reduceMod, Nat.reduceDiv, zcn_I]
      rw [(u1 _ (by omega)).2]
      simp (disch := omega) only [Nat.add_assoc, iI_ix, Int.toNat_natCast, Int.reduceToNat, Nat.reduceAdd, znew_up, zwP_up, nwR_P, nwR_N, nwR_Ks, nwR_Ko, pwR_R, pwR_s, pwR_o, upI_same, upL_same, upI_ne, upL_ne, iI_ixN, zI_mk, zL_mk, zP_mk, zK_mk, zN_mk, zwI_up, zwL_up, zg_some, Nat.reduceMod, Nat.reduceDiv, zcn_I]
      rw [(g2 _ (by omega)).2]
      simp (disch := omega) only [Nat.add_assoc, iI_ix, Int.toNat_natCast, Int.reduceToNat, Nat.reduceAdd, znew_up, zwP_up, nwR_P, nwR_N, nwR_Ks, nwR_Ko, pwR_R, pwR_s, pwR_o, upI_same, upL_same, upI_ne, upL_ne, iI_ixN, zI_mk, zL_mk, zP_mk, zK_mk, zN_mk, zwI_up, zwL_up, zg_some, Nat.reduceMod, Nat.reduceDiv, zcn_I]
    · simp (disch := omega) only [Nat.add_assoc, iI_ix, Int.toNat_natCast, Int.reduceToNat, Nat.reduceAdd, znew_up, zwP_up, nwR_P, nwR_N, nwR_Ks, nwR_Ko, pwR_R, pwR_s, pwR_o, upI_same, upL_same, upI_ne, upL_ne, iI_ixN, zI_mk, zL_mk, zP_mk, zK_mk, zN_mk, zwI_up, zwL_up, zg_some, Nat.reduceMod, Nat.reduceDiv, zcn_I]
      rw [(u1 _ (by omega)).2]
      simp (disch := omega) only [Nat.add_assoc, iI_ix, Int.toNat_natCast, Int.reduceToNat, Nat.reduceAdd, znew_up, zwP_up, nwR_P, nwR_N, nwR_Ks, nwR_Ko, pwR_R, pwR_s, pwR_o, upI_same, upL_same, upI_ne, upL_ne, iI_ixN, zI_mk, zL_mk, zP_mk, zK_mk, zN_mk, zwI_up, zwL_up, zg_some, Nat.reduceMod, Nat.reduceDiv, zcn_I]
    · rw [pwR_row (by omega), (u1 _ (by omega)).1]
      rw [nwR_P, pwR_row (by omega)]
    · simp (disch := omega) only [Nat.add_assoc, iI_ix, Int.toNat_natCast, Int.reduceToNat, Nat.reduceAdd, znew_up, zwP_up, nwR_P, nwR_N, nwR_Ks, nwR_Ko, pwR_R, pwR_s, pwR_o, upI_same, upL_same, upI_ne, upL_ne, iI_ixN, zI_mk, zL_mk, zP_mk, zK_mk, zN_mk, zwI_up, zwL_up, zg_some, Nat.reduceMod, Nat.reduceDiv, zcn_I]
    · rw [pwR_row (by omega)]
  have hsz0 : zOK n 0 (fun _ p => p) (fun p => p) (fun p => p) := ⟨h3, h10, by decide, fun a h => absurd h (Nat.not_lt_zero a), fun i h => absurd h (Nat.not_lt_zero i), fun a h => absurd h (Nat.not_lt_zero a), fun p h => h, fun _ _ => rfl, pm_id n⟩
  refine hQ _ _ _ ⟨fun a q => ?_, fun a q => ?_⟩ (fun a ha => ⟨?_, ?_⟩) ?_ hZL hsz0 ⟨?_, ?_, ?_, ?_, fun a h => absurd h (Nat.not_lt_zero a), ?_, false, fun _ => false, ?_, fun q => (by cases q), fun k hk => ⟨?_, fun q => (by cases q)⟩⟩
  · rw [upI_row (by omega)]
  · rw [upL_row (by omega), upL_row (by omega)]
    exact g1 a (by omega)
  · rw [pwR_row (by omega), (u1 a (by omega)).1, nwR_P, pwR_row (by omega), (g2 a (by omega)).1, nwR_P, pwR_row (by omega), nwR_P]
  · rw [pwR_R, (u1 a (by omega)).2]
    simp (disch := omega) only [Nat.add_assoc, iI_ix, Int.toNat_natCast, Int.reduceToNat, Nat.reduceAdd, znew_up, zwP_up, nwR_P, nwR_N, nwR_Ks, nwR_Ko, pwR_R, pwR_s, pwR_o, upI_same, upL_same, upI_ne, upL_ne, iI_ixN, zI_mk, zL_mk, zP_mk, zK_mk, zN_mk, zwI_up, zwL_up, zg_some, Nat.reduceMod, Nat.reduceDiv, zcn_I]
    rw [(g2 a (by omega)).2]
    simp (disch := omega) only [Nat.add_assoc, iI_ix, Int.toNat_natCast, Int.reduceToNat, Nat.reduceAdd, znew_up, zwP_up, nwR_P, nwR_N, nwR_Ks, nwR_Ko, pwR_R, pwR_s, pwR_o, upI_same, upL_same, upI_ne, upL_ne, iI_ixN, zI_mk, zL_mk, zP_mk, zK_mk, zN_mk, zwI_up, zwL_up, zg_some, Nat.reduceMod, Nat.reduceDiv, zcn_I]
  · simp (disch := omega) only [Nat.add_assoc, iI_ix, Int.toNat_natCast, Int.reduceToNat, Nat.reduceAdd, znew_up, zwP_up, nwR_P, nwR_N, nwR_Ks, nwR_Ko, pwR_R, pwR_s, pwR_o, upI_same, upL_same, upI_ne, upL_ne, iI_ixN, zI_mk, zL_mk, zP_mk, zK_mk, zN_mk, zwI_up, zwL_up, zg_some, Nat.reduceMod, Nat.reduceDiv, zcn_I]
    exact u3
  · simp (disch := omega) only [upI_same, upL_same, upI_ne, upL_ne, iI_ixN, zI_mk, zL_mk, zP_mk, zK_mk, zN_mk, zwI_up, zwL_up, zg_some, Nat.reduceMod, Nat.reduceDiv, zcn_I, iI_add, iI_sub, iI_mul, iI_neg, iI_lt, iI_le, iI_eq, iI_lt0, iI_le0, iI_gt0, iI_ge0, iI_eq0]
  · simp (disch := omega) only [upI_same, upL_same, upI_ne, upL_ne, iI_ixN, zI_mk, zL_mk, zP_mk, zK_mk, zN_mk, zwI_up, zwL_up, zg_some, Nat.reduceMod, Nat.reduceDiv, zcn_I, iI_add, iI_sub, iI_mul, iI_neg, iI_lt, iI_le, iI_eq, iI_lt0, iI_le0, iI_gt0, iI_ge0, iI_eq0]
    rw [hI]
    exact iI_0.symm
  · rw [upL_ne (by omega), upL_same, Rw_id]
  · rw [upL_same, Rw_id]
  · rw [← zA_0]
    exact chain_fr g6 rfl (fun a _ _ => by rw [upL_row (by omega), upL_row (by omega)])
  · rw [congrFun q4 8]
    exact iI_0.symm
  · rw [u5]
    exact iI_0.symm
end PINIT
