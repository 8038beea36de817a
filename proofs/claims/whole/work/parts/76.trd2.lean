/-! The class's tellings to rounds. -/
section TRD2
variable {d x z : Nat} {pb rb : Nat → Nat} {T : tfT} {I : Nat → Nat → Int32} {L : Nat → Nat → Int64} {R : zRt} {Q : zO → zM → Prop}
def tSetR (T : tfT) (i : Nat) (w : zRd) (dy : Nat) : tfT := (T.1, T.2.1, tRn T, (fun k => if k = i then w else tRd T k), dy)
theorem tf_setR {i : Nat} {w : zRd} {dy : Nat} {I' : Nat → Nat → Int32} (h : tf x z pb rb T (I, L, R)) (hi : i < tRn T) (f : ∀ a, a ≠ x → ¬ (rb i ≤ a ∧ a < rb i + 19) → I' a = I a) (f0 : ∀ k, k ≠ 10 → I' x k = I x k) (f1 : I' x 10 = iI (dy : Int)) (hdy : dy ≤ 999) (hk : rOK w) (hm : ∀ c, tCn T ≤ c → c < 12 → rMa w c = 0) (hR : rPR (rb i) I' w) : tf x z pb rb (tSetR T i w dy) (I', L, R) ∧ tfr x z (I, L, R) (I', L, R) := by
  obtain ⟨⟨o1, o2, o3, o4, ⟨o5, o6⟩, o7⟩, k2, k3, ⟨a1, a2⟩, ⟨b1, b2⟩, c, ⟨d1, d2⟩, ⟨e1, e2⟩, g⟩ := h
  have k3' := k3
  obtain ⟨l1, l2, l3, l4, l5⟩ := k3'
  have li := l4 i hi
  have gr : ∀ a, a < z → a ≠ x → ∀ k, I' a k = I a k := fun a q q' k => congrFun (f a q' (by omega)) k
  refine ⟨⟨⟨o1, o2, o3, o4, ⟨o5, fun k hk' => ?_⟩, hdy⟩, k2, k3, ⟨(f0 1 (by decide)).trans a1, fun k hk => (gr (x + 1) (by omega) (by omega) k).trans (a2 k hk)⟩, ⟨(f0 3 (by decide)).trans b1, fun k hk => zPR_fr (b2 k hk) (fun a q1 q2 => f a (by have := (l3 k hk).1; omega) (by have := l5 k i hk hi; omega)) (fun a q1 q2 => rfl)⟩, ⟨c.1, (gr (x + 3) (by omega) (by omega) 5).trans c.2.1, fun k hk => (gr (x + 3 + 1) (by omega) (by omega) k).trans (c.2.2.1 k hk), c.2.2.2⟩, ⟨(f0 7 (by decide)).trans d1, fun k hk => (gr (x + 15) (by omega) (by omega) k).trans (d2 k hk)⟩, ⟨(f0 9 (by decide)).trans e1, fun j hj => ?_⟩, f1⟩, ⟨fun a q1 q2 => ⟨f a (by omega) (by omega), rfl, rfl, rfl⟩, Nat.le_refl _⟩⟩
  · show rOK (if k = i then w else tRd T k) ∧ ∀ c, tCn T ≤ c → c < 12 → rMa (if k = i then w else tRd T k) c = 0
    by_cases q : k = i
    · rw [if_pos q]
      exact ⟨hk, hm⟩
    · rw [if_neg q]
      exact o6 k hk'
  · show rPR (rb j) I' (if j = i then w else tRd T j)
    by_cases q : j = i
    · rw [if_pos q, q]
      exact hR
    · rw [if_neg q]
      refine rPR_fr (e2 j hj) (fun a q1 q2 => f a (by have := (l4 j hj).1; omega) ?_)
      rcases Nat.lt_or_gt_of_ne q with h | h
      · have := li.2.2 j h
        omega
      · have := (l4 j hj).2.2 i h
        omega
theorem tf_tel {i : Nat} {w : zRd} {I' : Nat → Nat → Int32} (h : tf x z pb rb T (I, L, R)) (hi : i < tRn T) (f : rfr (rb i) I I') (hk : rOK w) (hm : ∀ c, tCn T ≤ c → c < 12 → rMa w c = 0) (hR : rPR (rb i) I' w) : tf x z pb rb (tSetR T i w (tDy T)) (I', L, R) ∧ tfr x z (I, L, R) (I', L, R) := by
  have hx : I' x = I x := f x (by have := (h.2.2.1.2.2.2.1 i hi).1; have := h.2.2.1.1; omega)
  exact tf_setR h hi (fun a _ q => f a q) (fun k _ => congrFun hx k) ((congrFun hx 10).trans (own_ok h).2.2.2) h.1.2.2.2.2.2 hk hm hR
/-- may an attempt be made -/
def opn (w : zRd) (c : Nat) : Prop := rCl w = false ∧ mayM w c
noncomputable def oSev (T : tfT) (r c tr so tm : Int) : tRes := onC T r c fun j k => if dc (rFm (tRd T j) = 109 ∧ opn (tRd T j) k) then (if ¬ (2 ≤ tr ∧ tr ≤ 60) ∨ ¬ (0 ≤ so ∧ so ≤ tr) ∨ ¬ (1 ≤ tm ∧ tm ≤ 359999) then (3, 0, T) else (0, (if 2 * so - tr < (if tr.toNat = 2 then 1 else 0) then -1 else 2 * so - tr), tSetR T j (wSev (tRd T j) k tr.toNat so.toNat tm.toNat (if 2 * so - tr < (if tr.toNat = 2 then 1 else 0) then 0 else 2 * so.toNat - tr.toNat + 1)) (tDy T))) else (2, 0, T)
theorem several_ok {r c tr so tm : Int} {a b f1 f2 f3 : Int32} (hd : 10 ≤ d) (h : tfx x z T (I, L, R)) (e1 : a = iI r) (e2 : b = iI c) (e3 : f1 = iI tr) (e4 : f2 = iI so) (e5 : f3 = iI tm) (h3 : i32 tr) (h4 : i32 so) (h5 : i32 tm) (h1 : i32 r) (h2 : i32 c) (hQ : tP x z (I, L, R) (oSev T r c tr so tm) [3, 1, 0] eI Q) : zS 134 d [zr (some x), zi a, zi b, zi f1, zi f2, zi f3] (I, L, R) Q := by
  subst e1; subst e2; subst e3; subst e4; subst e5
  have hT := h
  obtain ⟨pb, rb, hf⟩ := h
  have k0 := tf_k0 hf
  have hc12 := hf.1.2.2.2.1.1
  refine zW.gc [] rfl rfl rfl (by omega) trivial ⟨_, rfl, k0⟩ (by decide +kernel) (by decide +kernel) ?_
  refine findR_ok (by omega) hf rfl h1 (fun hb N hN => ?_) (fun j hj hp => ?_)
  · exact tP_t hQ hT (if_pos hb) hN
  subst hj
  unfold oSev onC at hQ
  rw [onR_i hp] at hQ
  obtain ⟨hL, hk, hz, hR⟩ := tf_rd hf hp
  have b0 := hL.1
  refine zW.gc [] rfl rfl rfl (by omega) trivial ⟨_, rfl, k0⟩ (by decide +kernel) (by decide +kernel) ?_
  refine chkC_ok (by omega) hf rfl h2 (fun hb N hN => ?_) (fun g1 g2 => ?_)
  · exact tP_t hQ hT (if_pos hb) hN
  rw [if_neg (fun n => n ⟨g1, g2⟩)] at hQ
  dsimp only at hQ
  obtain ⟨k, rfl⟩ : ∃ k : Nat, c = k := ⟨c.toNat, by omega⟩
  have hc : k < 12 := by omega
  rw [show ((k : Int)).toNat = k from rfl] at hQ
  have r0 := hR.1
  have fl := fm_lt hk
  have F : ∀ q : Int32, (rFm (tRd T j) = 109 ∧ q = iI 1) ∨ (¬ rFm (tRd T j) = 109 ∧ q = iI 0) → zW 134 d (0 + zmc 148 + zmc 149) (0 + zms 148 + zms 149) 30 [some (zr (some x)), some (zi (iI (j : Int))), some (zi (iI (k : Int))), some (zi (iI tr)), some (zi (iI so)), some (zi (iI tm)), some (zr (some (rb j)))] [zi q, zi (iI (k : Int)), zr (some (rb j))] (I, L, R) Q := by
    intro q hq
    refine zW.gc [] rfl rfl rfl (by omega) trivial trivial (by decide +kernel) (by decide +kernel) ?_
    refine chkO_ok (by omega) hL hk hR rfl hc hq (fun hb N hN => ?_) (fun u1 u2 u3 => ?_)
    · exact tP_t hQ hT (if_neg (fun q => hb (dc_t.mp q))) hN
    rw [if_pos (dc_t.mpr ⟨u1, u2, u3⟩)] at hQ
    refine zW.gc [] rfl rfl rfl (by omega) trivial trivial (by decide +kernel) (by decide +kernel) ?_
    refine chkN_ok (by omega) rfl (zcn_I _) (zcn_I _) h3 ⟨by omega, by omega⟩ ⟨by omega, by omega⟩ (fun hb N hN => ?_) (fun g3 g4 => ?_)
    · exact tP_t hQ hT (if_pos (Or.inl hb)) hN
    refine zW.gc [] rfl rfl rfl (by omega) trivial trivial (by decide +kernel) (by decide +kernel) ?_
    refine chkN_ok (by omega) rfl (zcn_I _) rfl h4 ⟨by omega, by omega⟩ ⟨by omega, by omega⟩ (fun hb N hN => ?_) (fun g5 g6 => ?_)
    · exact tP_t hQ hT (if_pos (Or.inr (Or.inl hb))) hN
    refine zW.gc [] rfl rfl rfl (by omega) trivial trivial (by decide +kernel) (by decide +kernel) ?_
    have z1 : Int32.ofInt (zldI 5192) = iI 359999 := by decide +kernel
    refine chkN_ok (by omega) rfl (zcn_I _) z1 h5 ⟨by omega, by omega⟩ ⟨by omega, by omega⟩ (fun hb N hN => ?_) (fun g7 g8 => ?_)
    · exact tP_t hQ hT (if_pos (Or.inr (Or.inr hb))) hN
    rw [if_neg (fun n => n.elim (fun n => n ⟨g3, g4⟩) (fun n => n.elim (fun n => n ⟨g5, g6⟩) (fun n => n ⟨g7, g8⟩)))] at hQ
    obtain ⟨tr, rfl⟩ : ∃ t : Nat, tr = t := ⟨tr.toNat, by omega⟩
    obtain ⟨so, rfl⟩ : ∃ t : Nat, so = t := ⟨so.toNat, by omega⟩
    obtain ⟨tm, rfl⟩ : ∃ t : Nat, tm = t := ⟨tm.toNat, by omega⟩
    refine zW.gz [] rfl rfl rfl (by omega) trivial ⟨_, rfl, b0⟩ rfl rfl (by decide +kernel) (by decide +kernel) ?_
    refine tellS_ok (by omega) hL hk hR u1 rfl rfl rfl rfl hc u3.1 (by omega) (by omega) (by omega) (by omega) (fun I' f hk' hR' => ?_)
    have hm : ∀ c, tCn T ≤ c → c < 12 → rMa (wSev (tRd T j) k tr so tm (if 2 * (so : Int) - tr < (if tr = 2 then 1 else 0) then 0 else 2 * so - tr + 1)) c = 0 := fun c q1 q2 => (if_neg (show ¬ c = k by omega)).trans (hz c q1 q2)
    obtain ⟨q1, q2⟩ := tf_tel hf hp f hk' hm hR'
    refine zW.gr [] rfl rfl rfl (by omega) trivial trivial ?_
    exact tP_0 hQ rfl ⟨_, _, q1⟩ q2
  by_cases q : rFm (tRd T j) = 109
  · refine zW.gbf [] rfl rfl rfl (by omega) (by simp (disch := omega) only [true_or, or_true, eq_self, Option.some.injEq, Prod.mk.injEq, zall_0, zall_1, zall_2, zob_iff, zar_iff, zis_iff, zkIs_some, zkHas_some, iI_vp, z01_I, z01_bz, zch_I, true_and, and_true, or_false, false_or, and_self, upI_same, upL_same, upI_ne, upL_ne, iI_ixN, zI_mk, zL_mk, zP_mk, zK_mk, zN_mk, zwI_up, zwL_up, zg_some, Nat.reduceMod, Nat.reduceDiv, zcn_I, iI_add, iI_sub, iI_mul, iI_neg, iI_lt, iI_le, iI_eq, iI_lt0, iI_le0, iI_gt0, iI_ge0, iI_eq0, b0] <;> omega) (by simp (disch := omega) only [eq_self, not_true_eq_false, not_false_eq_true, upI_same, upL_same, upI_ne, upL_ne, iI_ixN, zI_mk, zL_mk, zP_mk, zK_mk, zN_mk, zwI_up, zwL_up, zg_some, Nat.reduceMod, Nat.reduceDiv, zcn_I, iI_add, iI_sub, iI_mul, iI_neg, iI_lt, iI_le, iI_eq, iI_lt0, iI_le0, iI_gt0, iI_ge0, iI_eq0, r0] <;> omega) ?_
    exact zW.go [30] rfl (by omega) trivial (F _ (Or.inl ⟨q, zcn_I _⟩))
  · refine zW.gbt [] rfl rfl rfl (by omega) (by simp (disch := omega) only [true_or, or_true, eq_self, Option.some.injEq, Prod.mk.injEq, zall_0, zall_1, zall_2, zob_iff, zar_iff, zis_iff, zkIs_some, zkHas_some, iI_vp, z01_I, z01_bz, zch_I, true_and, and_true, or_false, false_or, and_self, upI_same, upL_same, upI_ne, upL_ne, iI_ixN, zI_mk, zL_mk, zP_mk, zK_mk, zN_mk, zwI_up, zwL_up, zg_some, Nat.reduceMod, Nat.reduceDiv, zcn_I, iI_add, iI_sub, iI_mul, iI_neg, iI_lt, iI_le, iI_eq, iI_lt0, iI_le0, iI_gt0, iI_ge0, iI_eq0, b0] <;> omega) (by simp (disch := omega) only [eq_self, not_true_eq_false, not_false_eq_true, upI_same, upL_same, upI_ne, upL_ne, iI_ixN, zI_mk, zL_mk, zP_mk, zK_mk, zN_mk, zwI_up, zwL_up, zg_some, Nat.reduceMod, Nat.reduceDiv, zcn_I, iI_add, iI_sub, iI_mul, iI_neg, iI_lt, iI_le, iI_eq, iI_lt0, iI_le0, iI_gt0, iI_ge0, iI_eq0, r0] <;> omega) ?_
    exact zW.go [30] rfl (by omega) trivial (F _ (Or.inr ⟨q, zcn_I _⟩))
end TRD2
