/-! The class's tellings to rounds, more. -/
section TRD3
variable {d x z : Nat} {pb rb : Nat → Nat} {T : tfT} {I : Nat → Nat → Int32} {L : Nat → Nat → Int64} {R : zRt} {Q : zO → zM → Prop}
noncomputable def told (insp time angle pp : Int) : Nat := if dc (pen insp time angle (pp ≠ 0)) then 0 else (penV insp time angle).toNat
noncomputable def oAtt (T : tfT) (r c ins tm ang pp : Int) : tRes := onC T r c fun j k => if dc ((avF (rFm (tRd T j)) ∨ rFm (tRd T j) = 98) ∧ opn (tRd T j) k) then (if ¬ (0 ≤ ins ∧ ins ≤ 9999) ∨ ¬ (1 ≤ tm ∧ tm ≤ 59999) ∨ ¬ (0 ≤ ang ∧ ang ≤ 359) then (3, 0, T) else (0, ((wTime (tRd T j) k tm.toNat (told ins tm ang pp)).1 : Nat), tSetR T j (wTime (tRd T j) k tm.toNat (told ins tm ang pp)).2 (tDy T))) else (2, 0, T)
theorem attempt_ok {r c ins tm ang pp : Int} {a b f1 f2 f3 f4 : Int32} (hd : 10 ≤ d) (h : tfx x z T (I, L, R)) (e1 : a = iI r) (e2 : b = iI c) (e3 : f1 = iI ins) (e4 : f2 = iI tm) (e5 : f3 = iI ang) (e6 : f4 = iI pp) (h3 : i32 ins) (h4 : i32 tm) (h5 : i32 ang) (h6 : i32 pp) (h1 : i32 r) (h2 : i32 c) (hQ : tP x z (I, L, R) (oAtt T r c ins tm ang pp) [3, 1, 0] eI Q) : zS 132 d [zr (some x), zi a, zi b, zi f1, zi f2, zi f3, zi f4] (I, L, R) Q := by
  subst e1; subst e2; subst e3; subst e4; subst e5; subst e6
  have hT := h
  obtain ⟨pb, rb, hf⟩ := h
  have k0 := tf_k0 hf
  have hc12 := hf.1.2.2.2.1.1
  refine zW.gc [] rfl rfl rfl (by omega) trivial ⟨_, rfl, k0⟩ (by decide +kernel) (by decide +kernel) ?_
  refine findR_ok (by omega) hf rfl h1 (fun hb N hN => ?_) (fun j hj hp => ?_)
  · exact tP_t hQ hT (if_pos hb) hN
  subst hj
  unfold oAtt onC at hQ
  rw [onR_i hp] at hQ
  obtain ⟨hL, hk, hz, hR⟩ := tf_rd hf hp
  have b0 := hL.1
  refine zW.gc [] rfl rfl rfl (by omega) trivial ⟨_, rfl, k0⟩ (by decide +kernel) (by decide +kernel) ?_
  refine chkC_ok (by omega) hf rfl h2 (fun hb N hN => ?_) (fun g1 g2 => ?_)
  · exact tP_t hQ hT (if_pos hb) hN
  rw [if_neg (fun n => n ⟨g1, g2⟩)] at hQ
  dsimp only at hQ
  obtain ⟨k, rfl⟩ : ∃ k : Nat, c = k := ⟨c.toNat, by omega⟩
  have hc : k < 12 := by omega
  rw [show ((k : Int)).toNat = k from rfl] at hQ
  have F : ∀ q : Int32, ((avF (rFm (tRd T j)) ∨ rFm (tRd T j) = 98) ∧ q = iI 1) ∨ (¬ (avF (rFm (tRd T j)) ∨ rFm (tRd T j) = 98) ∧ q = iI 0) → zW 132 d (0 + zmc 148 + zmc 149) (0 + zms 148 + zms 149) 20 [some (zr (some x)), some (zi (iI (j : Int))), some (zi (iI (k : Int))), some (zi (iI ins)), some (zi (iI tm)), some (zi (iI ang)), some (zi (iI pp)), some (zr (some (rb j)))] [zi q, zi (iI (k : Int)), zr (some (rb j))] (I, L, R) Q := by
    intro q hq
    refine zW.gc [] rfl rfl rfl (by omega) trivial trivial (by decide +kernel) (by decide +kernel) ?_
    refine chkO_ok (by omega) hL hk hR rfl hc hq (fun hb N hN => ?_) (fun u1 u2 u3 => ?_)
    · exact tP_t hQ hT (if_neg (fun q => hb (dc_t.mp q))) hN
    rw [if_pos (dc_t.mpr ⟨u1, u2, u3⟩)] at hQ
    refine zW.gc [] rfl rfl rfl (by omega) trivial trivial (by decide +kernel) (by decide +kernel) ?_
    refine chkN_ok (by omega) rfl (zcn_I _) (zcn_I _) h3 ⟨by omega, by omega⟩ ⟨by omega, by omega⟩ (fun hb N hN => ?_) (fun g3 g4 => ?_)
    · exact tP_t hQ hT (if_pos (Or.inl hb)) hN
    refine zW.gc [] rfl rfl rfl (by omega) trivial trivial (by decide +kernel) (by decide +kernel) ?_
    refine chkN_ok (hi := 59999) (by omega) rfl (zcn_I _) ?_ h4 ⟨by omega, by omega⟩ ⟨by omega, by omega⟩ (fun hb N hN => ?_) (fun g5 g6 => ?_)
    · decide +kernel
    · exact tP_t hQ hT (if_pos (Or.inr (Or.inl hb))) hN
    refine zW.gc [] rfl rfl rfl (by omega) trivial trivial (by decide +kernel) (by decide +kernel) ?_
    refine chkN_ok (by omega) rfl (zcn_I _) (zcn_I _) h5 ⟨by omega, by omega⟩ ⟨by omega, by omega⟩ (fun hb N hN => ?_) (fun g7 g8 => ?_)
    · exact tP_t hQ hT (if_pos (Or.inr (Or.inr hb))) hN
    rw [if_neg (fun n => n.elim (fun n => n ⟨g3, g4⟩) (fun n => n.elim (fun n => n ⟨g5, g6⟩) (fun n => n ⟨g7, g8⟩)))] at hQ
    obtain ⟨tm, rfl⟩ : ∃ t : Nat, tm = t := ⟨tm.toNat, by omega⟩
    have hpv : 1 ≤ penV ins tm ang ∧ penV ins tm ang ≤ 60399 := by
      unfold penV
      split <;> split <;> omega
    have G : ∀ (td : Nat) (y : Int32), td = told ins tm ang pp → y = iI (td : Int) → td ≤ 60399 → zW 132 d (0 + zmc 148 + zmc 149 + zmc 153 + zmc 151 + zmc 151 + zmc 151) (0 + zms 148 + zms 149 + zms 153 + zms 151 + zms 151 + zms 151) 63 [some (zr (some x)), some (zi (iI (j : Int))), some (zi (iI (k : Int))), some (zi (iI ins)), some (zi (iI tm)), some (zi (iI ang)), some (zi (iI pp)), some (zr (some (rb j)))] [zi y, zi (iI (tm : Int)), zi (iI (k : Int)), zr (some (rb j))] (I, L, R) Q := by
      intro td y htd ey hle
      subst ey
      refine zW.gz [] rfl rfl rfl (by omega) trivial ⟨_, rfl, b0⟩ rfl rfl (by decide +kernel) (by decide +kernel) ?_
      have h109 : rFm (tRd T j) ≠ 109 := by
        unfold avF at u1
        omega
      refine tellT_ok (by omega) hL hk hR h109 rfl rfl rfl hc u3.1 (by omega) hle (fun I' f hk' hR' => ?_)
      have hm : ∀ c, tCn T ≤ c → c < 12 → rMa (wTime (tRd T j) k tm td).2 c = 0 := fun c q1 q2 => by
        unfold wTime
        split
        · exact (if_neg (show ¬ c = k by omega)).trans (hz c q1 q2)
        · exact (if_neg (show ¬ c = k by omega)).trans (hz c q1 q2)
      obtain ⟨q1, q2⟩ := tf_tel hf hp f hk' hm hR'
      rw [← htd] at hQ
      refine zW.gr [] rfl rfl rfl (by omega) trivial trivial ?_
      exact tP_0 hQ rfl ⟨_, _, q1⟩ q2
    refine zW.gz [] rfl rfl rfl (by omega) trivial trivial rfl rfl (by decide +kernel) (by decide +kernel) ?_
    refine pen_ok (by omega) rfl rfl rfl rfl (by omega) (by omega) (by omega) (by omega) (by omega) (by omega) h6.1 h6.2 (fun g => ?_) (fun g => ?_)
    · exact G 0 _ (if_pos (dc_t.mpr g)).symm rfl (by omega)
    · exact G (penV ins tm ang).toNat _ (if_neg (fun q => g (dc_t.mp q))).symm (iI_cg (by omega)) (by omega)
  refine zW.gz [] rfl rfl rfl (by omega) trivial ⟨_, rfl, b0⟩ rfl rfl (by decide +kernel) (by decide +kernel) ?_
  refine isTimed_ok (by omega) hL hk hR (fun g => ?_) (fun g => ?_)
  · exact F _ (Or.inl ⟨g, rfl⟩)
  · exact F _ (Or.inr ⟨g, rfl⟩)
end TRD3
