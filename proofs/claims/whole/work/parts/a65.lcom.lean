/-! The law: its script, its world, what stays. -/
def lw (b L x : Nat) (xs : Nat → Int32) (T T' : tfT) (M : zM) : Prop := tfx x (x + 1960) T M ∧ mf (x + 17) T' M ∧ M.2.2.2.1 b = some (30, L) ∧ M.1 b = xs ∧ M.2.2.2.1 (x + 1958) = some (21, 1) ∧ M.2.2.2.1 (x + 1959) = some (24, 1) ∧ b < x
theorem lw_1 {b L x o : Nat} {xs : Nat → Int32} {T T' T2 : tfT} {M M' : zM} (h : lw b L x xs T T' M) (k : tfx x (x + 1960) T2 M') (f : hfr x (x + 1960) o M M') (ho : x + 1958 ≤ o) : lw b L x xs T2 T' M' := by
  obtain ⟨h1, h2, h3, h4, h5, h6, h7⟩ := h
  refine ⟨k, mf_fr h2 (fun a q1 q2 => ?_) f.2, ?_, ?_, ?_, ?_, h7⟩
  · obtain ⟨a1, a2, a3, a4⟩ := f.1 a (by omega) (by omega)
    exact ⟨a1, a2 (by omega), a3, a4⟩
  · exact (f.1 b (by omega) (by omega)).2.2.2.trans h3
  · exact (f.1 b (by omega) (by omega)).1.trans h4
  · exact (f.1 _ (by omega) (by omega)).2.2.2.trans h5
  · exact (f.1 _ (by omega) (by omega)).2.2.2.trans h6
theorem lw_2 {b L x : Nat} {xs : Nat → Int32} {T T' T2 : tfT} {M M' : zM} (h : lw b L x xs T T' M) (k : mf (x + 17) T2 M') (f : mgr (x + 17) M M') : lw b L x xs T T2 M' ∧ M'.2.1 (x + 1958) = M.2.1 (x + 1958) ∧ M'.2.1 (x + 1959) = M.2.1 (x + 1959) := by
  obtain ⟨⟨pb, rb, h1⟩, h2, h3, h4, h5, h6, h7⟩ := h
  have hz : x + 1960 ≤ M.2.2.2.2 := h1.2.2.1.2.1
  refine ⟨⟨⟨pb, rb, tf_sm h1 ⟨fun a q1 q2 => f.1 a q1 (by omega), f.2⟩⟩, k, ?_, ?_, ?_, ?_, h7⟩, ?_, ?_⟩
  · exact (f.1 b (by omega) (by omega)).2.2.2.trans h3
  · exact (f.1 b (by omega) (by omega)).1.trans h4
  · exact (f.1 _ (by omega) (by omega)).2.2.2.trans h5
  · exact (f.1 _ (by omega) (by omega)).2.2.2.trans h6
  · exact (f.1 _ (by omega) (by omega)).2.1
  · exact (f.1 _ (by omega) (by omega)).2.1
theorem lw_ro {b L x : Nat} {xs : Nat → Int32} {T T' : tfT} {I : Nat → Nat → Int32} {Lg : Nat → Nat → Int64} {R : zRt} (h : lw b L x xs T T' (I, Lg, R)) : oRo x (x + 1960) (x + 1958) 21 R ∧ oRo x (x + 1960) (x + 1959) 24 R := by
  obtain ⟨h1, h2, h3, h4, h5, h6, h7⟩ := h
  exact ⟨⟨h5, by omega, by omega⟩, ⟨h6, by omega, by omega⟩⟩
theorem lw_k0 {b L x : Nat} {xs : Nat → Int32} {T T' : tfT} {I : Nat → Nat → Int32} {Lg : Nat → Nat → Int64} {R : zRt} (h : lw b L x xs T T' (I, Lg, R)) : R.2.1 x = some (6, 0) ∧ R.2.1 (x + 17) = some (7, 0) := ⟨tfx_k0 h.1, h.2.1.2.1.1⟩
/-- a place of the script -/
theorem sc_ar {b L m : Nat} {I : Nat → Nat → Int32} {Lg : Nat → Nat → Int64} {R : zRt} {z : Int} (hb : R.2.1 b = some (30, L)) (hm : m + 7 ≤ L) (hL : L ≤ 3584) (h0 : 0 ≤ z) (h1 : z < 7) : zar (I, Lg, R) (some b) 20 (iI (m : Int) + zcn z) ∨ zar (I, Lg, R) (some b) 30 (iI (m : Int) + zcn z) := by
  refine Or.inr ⟨b, L, rfl, hb, ?_⟩
  rw [zcn_I, iI_add]
  exact (iI_vp (by omega) (by omega)).mpr ⟨by omega, by omega⟩
theorem sc_v {b L m : Nat} {I : Nat → Nat → Int32} {Lg : Nat → Nat → Int64} {R : zRt} {xs : Nat → Int32} {z : Int} (n : Nat) (hs : I b = xs) (hm : m + 7 ≤ L) (hL : L ≤ 3584) (hz : z = (n : Int)) (hn : n < 7) : zI (I, Lg, R) (zg (some b)) (iI (m : Int) + zcn z).toNatClampNeg = xs (m + n) := by
  subst hz
  rw [zcn_I, iI_add, iI_ix (by omega) (by omega), ← hs]
  show I b _ = I b _
  congr 1
theorem sc_0 {b L m : Nat} {I : Nat → Nat → Int32} {Lg : Nat → Nat → Int64} {R : zRt} {xs : Nat → Int32} (hs : I b = xs) (hm : m + 7 ≤ L) (hL : L ≤ 3584) : zI (I, Lg, R) (zg (some b)) (iI (m : Int)).toNatClampNeg = xs m := by
  rw [iI_ixN (by omega), ← hs]
  rfl
/-- arguments: ints, chars, longs -/
theorem ag_i (x : Int32) : x = iI x.toInt := (Int32.ofInt_toInt x).symm
theorem ag_r (x : Int32) : i32 x.toInt := ⟨Int32.le_toInt x, Int32.toInt_lt x⟩
def chv (x : Int32) : Int := ((x.toUInt32 % 65536).toNat : Int)
theorem ag_c (x : Int32) : (x.toUInt32 % 65536).toInt32 = iI (chv x) := by
  unfold chv iI
  rw [Int32.ofInt_eq_ofNat]
  generalize x.toUInt32 % 65536 = u
  exact congrArg UInt32.toInt32 (UInt32.ofNat_toNat (x := u)).symm
theorem ag_c0 (x : Int32) : 0 ≤ chv x := Int.natCast_nonneg _
theorem ag_c1 (x : Int32) : chv x < 65536 := by
  unfold chv
  have h : (x.toUInt32 % 65536).toNat < 65536 := by
    rw [UInt32.toNat_mod]
    exact Nat.mod_lt _ (by decide)
  omega
theorem ag_l (x : Int64) : x = iL x.toInt := (Int64.ofInt_toInt x).symm
theorem ag_l0 (x : Int64) : -9223372036854775808 ≤ x.toInt := Int64.le_toInt x
theorem ag_l1 (x : Int64) : x.toInt < 9223372036854775808 := Int64.toInt_lt x
/-- the room -/
theorem bu1 {c a z m : Nat} (h : c + m ≤ z) (e : a ≤ m) : c + a ≤ z := by omega
theorem bu2 {c a a' z m : Nat} (h : c + m ≤ z) (e : a + a' ≤ m) : c + a + a' ≤ z := by omega
theorem bu3 {c a a' a'' z m : Nat} (h : c + m ≤ z) (e : a + a' + a'' ≤ m) : c + a + a' + a'' ≤ z := by omega
theorem bv1 {c a m : Nat} (e : a ≤ m) : c + a ≤ c + m := by omega
theorem bv2 {c a a' m : Nat} (e : a + a' ≤ m) : c + a + a' ≤ c + m := by omega
theorem bv3 {c a a' a'' m : Nat} (e : a + a' + a'' ≤ m) : c + a + a' + a'' ≤ c + m := by omega
theorem n0_of {n m : Nat} (hn : n ≤ m) (hm : m ≤ 9) (g : ¬ ¬ iI (n : Int) = 0) : n = 0 := by
  have g := Classical.not_not.mp g
  rw [iI_eq0 (by omega) (by omega)] at g
  omega
theorem la0 {I : Nat → Nat → Int32} {Lg : Nat → Nat → Int64} {R : zRt} {o : Nat} {v : Int64} (e : Lg o 0 = v) : zL (I, Lg, R) (zg (some o)) (zcn 0).toNatClampNeg = v := by
  rw [show (zcn 0).toNatClampNeg = 0 from by decide]
  exact e
/-- what a call of the law comes to -/
def lwK (b L x m : Nat) (xs : Nat → Int32) (c s : Nat) (Q : zO → zM → Prop) : Prop := ∀ c' s' T M v6 v7 v8, c' ≤ c + 26 → s' ≤ s + 10831 → lw b L x xs T T M → zW 298 2048 c' s' 3358 [some (zr (some b)), some (zr (some x)), some (zr (some (x + 17))), some (zr (some (x + 1958))), some (zr (some (x + 1959))), some (zi (iI (m : Int))), v6, v7, v8] [] M Q
/-! the two calls with floating answers -/
def cF (n : Nat) (v : Int) : UInt64 := FP.f2d (FP.fdiv (FP.i2f (iI v)) (FP.i2f (iI (n : Int))))
def cD (n : Nat) (v : Int) : UInt64 := FP.ddiv (FP.l2d (iL v)) (FP.l2d (iL (n : Int)))
def hF (x z o : Nat) (M : zM) (r : tRes) (cv : Int → UInt64) (Q : zO → zM → Prop) : Prop := ∀ M', tfx x z r.2.2 M' → hfr x z o M M' → (r.1 = 0 → M'.2.1 o 0 = (cv r.2.1).toInt64 ∧ vf_n64 (cv r.2.1)) → Q (.inl (some (zi (iI (r.1 : Int))))) M'
theorem hF_0 {x z o t : Nat} {M : zM} {I' : Nat → Nat → Int32} {L' : Nat → Nat → Int64} {R' : zRt} {r : tRes} {cv : Int → UInt64} {Q : zO → zM → Prop} {w : Int} {T' : tfT} {v : Int64} (h : hF x z o M r cv Q) (ho : oRo x z o t M.2.2) (e : r = (0, w, T')) (k : tfx x z T' (I', L', R')) (f : tfr x z M (I', L', R')) (n : vf_n64 (cv w)) (ev : v = (cv w).toInt64) : Q (.inl (some (zi (zcn 0)))) (zwL (I', L', R') (zg (some o)) (zcn 0).toNatClampNeg v) :=
  hP_0 (cv := fun q => (cv q).toInt64) (fun M' q1 q2 q3 => h M' q1 q2 (fun g => ⟨q3 g, by subst e; exact n⟩)) ho e k f ev
theorem hF_t {x z o c : Nat} {M M' : zM} {r : tRes} {cv : Int → UInt64} {Q : zO → zM → Prop} {w : Int} {T' : tfT} {v : Int32} (h : hF x z o M r cv Q) (e : r = (c + 1, w, T')) (k : tfx x z T' M') (f : tfr x z M M') (ev : v = iI ((c + 1 : Nat) : Int)) : Q (.inl (some (zi v))) M' := by
  subst e; subst ev
  exact h M' k (tfr_h f) (fun q => absurd q (Nat.succ_ne_zero c))
theorem sh_n {T T' : tfT} {w : Int} (hT : tOK T) (e : oShare T = (0, w, T')) : vf_n64 (cF (shA T false (tRn T)) w) := by
  have h8 := hT.2.2.2.2.1.1
  have hk : ∀ j, j < tRn T → rOK (tRd T j) := fun j hj => (hT.2.2.2.2.1.2 j hj).1
  have l1 := shA_le hk false (tRn T) (Nat.le_refl _)
  have l2 := shA_le hk true (tRn T) (Nat.le_refl _)
  unfold oShare at e
  by_cases h0 : shA T false (tRn T) = 0
  · rw [if_pos h0] at e
    cases e
  · rw [if_neg h0] at e
    simp only [Prod.mk.injEq, true_and] at e
    rw [← e.1]
    exact (n32_q (by omega) (by omega) (by omega)).2
theorem mn_n {T T' : tfT} {p c w : Int} (hT : tOK T) (e : oMean T p c = (0, w, T')) : vf_n64 (cD (pzZ (tPz T p.toNat)) w) := by
  unfold oMean onG onP at e
  split at e
  · cases e
  rename_i hp
  split at e
  · cases e
  generalize (if c = 113 then 0 else 1) = k at e
  unfold sml at e
  dsimp only at e
  split at e
  · rename_i h8
    simp only [Prod.mk.injEq, true_and] at e
    have hi : p.toNat < tPn T := by
      unfold noP at hp
      omega
    have hz := hT.2.1.2 p.toNat hi
    have z9 : 1 ≤ pzZ (tPz T p.toNat) := szG_pos (zG_is hz) 10
    obtain ⟨s1, s2⟩ := smd_rg (f := pzF k (tPz T p.toNat)) (n := pzZ (tPz T p.toNat)) (fun s hs => pzF_rg hz h8 hs)
    rw [e.1] at s1 s2
    obtain ⟨q, hq⟩ : ∃ q : Nat, w = (q : Int) := ⟨w.toNat, by omega⟩
    subst hq
    exact n64_quo (s := q) z9 (by omega) (by omega)
  · cases e
section LFLO
variable {d x z o : Nat} {T : tfT} {I : Nat → Nat → Int32} {L : Nat → Nat → Int64} {R : zRt} {Q : zO → zM → Prop}
theorem h296_ok (hd : 20 ≤ d) (h : tfx x z T (I, L, R)) (ho : oRo x z o 24 R) (hQ : hF x z o (I, L, R) (oShare T) (cF (shA T false (tRn T))) Q) : zS 296 d [zr (some x), zr (some o)] (I, L, R) Q := by
  have hT : tOK T := by
    obtain ⟨pb, rb, k⟩ := h
    exact k.1
  refine zW.gc [] rfl rfl rfl (by omega) trivial ⟨_, rfl, tfx_k0 h⟩ (by decide +kernel) (by decide +kernel) ?_
  refine share_ok (by omega) h (tP_h b_oShare (fun M' w T' hr k f => ?_) (fun c M' w T' hc hr k f => ?_))
  · obtain ⟨I', L', R'⟩ := M'
    exact zW.gr [] rfl rfl rfl (by omega) ⟨oRo_ar (oRo_K ho f), sh_n hT hr⟩ trivial (hF_0 hQ ho hr k f (sh_n hT hr) rfl)
  · obtain rfl : c = 0 := by omega
    exact zaft_x rfl (fun q => zW.gr [] rfl rfl rfl (by omega) trivial trivial (hF_t hQ hr k f (zcn_I _)))
theorem h297_ok {v1 v2 : Int} {a1 a2 : Int32} (hd : 20 ≤ d) (h : tfx x z T (I, L, R)) (ho : oRo x z o 24 R) (e1 : a1 = iI v1) (e2 : a2 = iI v2) (h1 : i32 v1) (h2 : 0 ≤ v2) (h2' : v2 < 65536) (hQ : hF x z o (I, L, R) (oMean T v1 v2) (cD (pzZ (tPz T v1.toNat))) Q) : zS 297 d [zr (some x), zi a1, zi a2, zr (some o)] (I, L, R) Q := by
  have hT : tOK T := by
    obtain ⟨pb, rb, k⟩ := h
    exact k.1
  refine zW.gc [] rfl rfl rfl (by omega) trivial ⟨_, rfl, tfx_k0 h⟩ (by decide +kernel) (by decide +kernel) ?_
  refine mean_ok (by omega) h e1 e2 h1 (i32_16 h2 h2') (tP_h b_oMean (fun M' w T' hr k f => ?_) (fun c M' w T' hc hr k f => ?_))
  · obtain ⟨I', L', R'⟩ := M'
    exact zW.gr [] rfl rfl rfl (by omega) (oRo_ar (oRo_K ho f)) trivial (hF_0 hQ ho hr k f (mn_n hT hr) rfl)
  · rcases (show c = 0 ∨ c = 1 ∨ c = 2 by omega) with rfl | rfl | rfl
    · exact zaft_x rfl (fun q => zW.gr [] rfl rfl rfl (by omega) trivial trivial (hF_t hQ hr k f (zcn_I _)))
    · exact zaft_x rfl (fun q => zW.gr [] rfl rfl rfl (by omega) trivial trivial (hF_t hQ hr k f (zcn_I _)))
    · exact zaft_x rfl (fun q => zW.gr [] rfl rfl rfl (by omega) trivial trivial (hF_t hQ hr k f (zcn_I _)))
end LFLO
