/-! The law whole. -/
section LSTA
variable {b L x : Nat} {xs : Nat → Int32}
def lQ : zO → zM → Prop := fun o _ => o = .inl (some (zi 1))
theorem nI_sub7 {L : Nat} : nI L - zcn 7 = iI ((L : Int) - 7) := by rw [nI_I, zcn_I, iI_sub]
theorem zlen_K {M : zM} {a t n : Nat} (h : zK M a = some (t, n)) : zlenOf M (some a) = n := by
  unfold zlenOf
  rw [show zg (some a) = a from rfl, h]
/-- the room that n calls want; hidden, for omega compares such numbers by counting -/
def bgc (c n : Nat) : Prop := c + 26 * n ≤ zmc 298
def bgs (s n : Nat) : Prop := s + 10831 * n ≤ zms 298
theorem bw1 {c k n z : Nat} (h : c + k * (n + 1) ≤ z) : c + k ≤ z := by
  rw [Nat.mul_succ] at h
  omega
theorem bw2 {c c' k n z : Nat} (h : c + k * (n + 1) ≤ z) (q : c' ≤ c + k) : c' + k * n ≤ z := by
  rw [Nat.mul_succ] at h
  omega
theorem bgc_1 {c n : Nat} (h : bgc c (n + 1)) : c + 26 ≤ zmc 298 := bw1 h
theorem bgs_1 {c n : Nat} (h : bgs c (n + 1)) : c + 10831 ≤ zms 298 := bw1 h
theorem bgc_2 {c c' n : Nat} (h : bgc c (n + 1)) (q : c' ≤ c + 26) : bgc c' n := bw2 h q
theorem bgs_2 {c c' n : Nat} (h : bgs c (n + 1)) (q : c' ≤ c + 10831) : bgs c' n := bw2 h q
theorem llop (hL : L ≤ 3584) : ∀ n m c s T M y5 v6 v7 v8, L ≤ m + 7 * n → m ≤ 3584 → y5 = iI (m : Int) → lw b L x xs T T M → bgc c n → bgs s n → zW 298 2048 c s 28 [some (zr (some b)), some (zr (some x)), some (zr (some (x + 17))), some (zr (some (x + 1958))), some (zr (some (x + 1959))), some (zi y5), v6, v7, v8] [] M lQ := by
  intro n
  induction n with
  | zero =>
    intro m c s T M y5 v6 v7 v8 h1 h1' e5 h hc hs
    subst e5
    obtain ⟨I, Lg, R⟩ := M
    have hb : R.2.1 b = some (30, L) := h.2.2.1
    refine zW.gbt [] rfl rfl rfl (by omega) ⟨10, by decide, ⟨b, L, rfl, hb⟩⟩ ?_ ?_
    · rw [zlen_K (M := (I, Lg, R)) hb, nI_sub7, iI_lt (by omega) (by omega) (by omega) (by omega)]
      omega
    · refine zW.gr [] rfl rfl rfl (by omega) trivial z01c1 ?_
      show (Sum.inl (some (zi (zcn 1))) : zO) = .inl (some (zi 1))
      rw [zcn_I, iI_1]
  | succ n ih =>
    intro m c s T M y5 v6 v7 v8 h1 h1' e5 h hc hs
    subst e5
    obtain ⟨I, Lg, R⟩ := M
    have hb : R.2.1 b = some (30, L) := h.2.2.1
    refine zW.gb [] rfl rfl rfl (by omega) ⟨10, by decide, ⟨b, L, rfl, hb⟩⟩ (fun g => ?_) (fun g => ?_)
    · refine zW.gr [] rfl rfl rfl (by omega) trivial z01c1 ?_
      show (Sum.inl (some (zi (zcn 1))) : zO) = .inl (some (zi 1))
      rw [zcn_I, iI_1]
    · rw [zlen_K (M := (I, Lg, R)) hb, nI_sub7, iI_lt (by omega) (by omega) (by omega) (by omega)] at g
      refine lbod_ok (by omega) hL h (bgc_1 hc) (bgs_1 hs) (fun c' s' T' M' u6 u7 u8 q1 q2 g' => ?_)
      refine zW.go [28] rfl (by omega) trivial ?_
      exact ih (m + 7) c' s' T' M' _ u6 u7 u8 (by omega) (by omega) (by rw [zcn_I, iI_add]; rfl) g' (bgc_2 hc q1) (bgs_2 hs q2)
theorem law_ok {N : Nat} (hL : L ≤ 3584) (hN : b < N) : zS 298 2048 [zr (some b)] (zM0 b L N xs) lQ := by
  have hI : ∀ a, N ≤ a → (fun (q k : Nat) => if q = b then xs k else (0 : Int32)) a = fun _ => 0 := fun a ha => funext fun k => if_neg (by omega)
  have e0 : zM0 b L N xs = ((fun q k => if q = b then xs k else 0), (fun _ _ => 0), ((fun _ _ => none), (fun a => if a = b then some (30, L) else none), N)) := rfl
  rw [e0]
  have hI0 : (fun (q k : Nat) => if q = b then xs k else (0 : Int32)) b = xs := funext fun k => if_pos rfl
  generalize (fun (q k : Nat) => if q = b then xs k else (0 : Int32)) = I at hI hI0 ⊢
  generalize (fun (_ _ : Nat) => (0 : Int64)) = Lg
  have hR : ((fun _ _ => none, fun a => if a = b then some (30, L) else none, N) : zRt).2.1 b = some (30, L) ∧ ((fun _ _ => none, fun a => if a = b then some (30, L) else none, N) : zRt).2.2 = N := ⟨if_pos rfl, rfl⟩
  generalize ((fun _ _ => none, fun a => if a = b then some (30, L) else none, N) : zRt) = R at hR ⊢
  obtain ⟨hb, hN'⟩ := hR
  refine zW.gm [] rfl rfl rfl (by omega) trivial trivial (by decide +kernel) (by decide +kernel) (fun f1 => ?_)
  simp (disch := omega) only [Nat.add_assoc, iI_ix, Int.toNat_natCast, Int.reduceToNat, Nat.reduceAdd, znew_up, zwP_up, nwR_P, nwR_N, nwR_Ks, nwR_Ko, pwR_R, pwR_s, pwR_o, upI_same, upL_same, upI_ne, upL_ne, iI_ixN, zI_mk, zL_mk, zP_mk, zK_mk, zN_mk, zwI_up, zwL_up, zg_some, Nat.reduceMod, Nat.reduceDiv, zcn_I, hN']
  refine zW.gc [] rfl rfl rfl (by omega) trivial ⟨_, rfl, by simp (disch := omega) only [Nat.add_assoc, iI_ix, Int.toNat_natCast, Int.reduceToNat, Nat.reduceAdd, znew_up, zwP_up, nwR_P, nwR_N, nwR_Ks, nwR_Ko, pwR_R, pwR_s, pwR_o, upI_same, upL_same, upI_ne, upL_ne, iI_ixN, zI_mk, zL_mk, zP_mk, zK_mk, zN_mk, zwI_up, zwL_up, zg_some, Nat.reduceMod, Nat.reduceDiv, zcn_I]; rfl⟩ (by decide +kernel) (by decide +kernel) ?_
  refine tinit_ok (x := N) (by omega) (by simp (disch := omega) only [Nat.add_assoc, iI_ix, Int.toNat_natCast, Int.reduceToNat, Nat.reduceAdd, znew_up, zwP_up, nwR_P, nwR_N, nwR_Ks, nwR_Ko, pwR_R, pwR_s, pwR_o, upI_same, upL_same, upI_ne, upL_ne, iI_ixN, zI_mk, zL_mk, zP_mk, zK_mk, zN_mk, zwI_up, zwL_up, zg_some, Nat.reduceMod, Nat.reduceDiv, zcn_I]) (by simp (disch := omega) only [Nat.add_assoc, iI_ix, Int.toNat_natCast, Int.reduceToNat, Nat.reduceAdd, znew_up, zwP_up, nwR_P, nwR_N, nwR_Ks, nwR_Ko, pwR_R, pwR_s, pwR_o, upI_same, upL_same, upI_ne, upL_ne, iI_ixN, zI_mk, zL_mk, zP_mk, zK_mk, zN_mk, zwI_up, zwL_up, zg_some, Nat.reduceMod, Nat.reduceDiv, zcn_I]) (fun R1 g1 g2 g3 _ => ?_)
  have B1 : R1.2.1 b = some (30, L) := by
    rw [(g1 b hN).2]
    simp (disch := omega) only [Nat.add_assoc, iI_ix, Int.toNat_natCast, Int.reduceToNat, Nat.reduceAdd, znew_up, zwP_up, nwR_P, nwR_N, nwR_Ks, nwR_Ko, pwR_R, pwR_s, pwR_o, upI_same, upL_same, upI_ne, upL_ne, iI_ixN, zI_mk, zL_mk, zP_mk, zK_mk, zN_mk, zwI_up, zwL_up, zg_some, Nat.reduceMod, Nat.reduceDiv, zcn_I, hb]
  refine zW.gm [] rfl rfl rfl (by omega) trivial trivial (by decide +kernel) (by decide +kernel) (fun f2 => ?_)
  simp (disch := omega) only [Nat.add_assoc, iI_ix, Int.toNat_natCast, Int.reduceToNat, Nat.reduceAdd, znew_up, zwP_up, nwR_P, nwR_N, nwR_Ks, nwR_Ko, pwR_R, pwR_s, pwR_o, upI_same, upL_same, upI_ne, upL_ne, iI_ixN, zI_mk, zL_mk, zP_mk, zK_mk, zN_mk, zwI_up, zwL_up, zg_some, Nat.reduceMod, Nat.reduceDiv, zcn_I, g2]
  refine zW.gc [] rfl rfl rfl (by omega) trivial ⟨_, rfl, by simp (disch := omega) only [Nat.add_assoc, iI_ix, Int.toNat_natCast, Int.reduceToNat, Nat.reduceAdd, znew_up, zwP_up, nwR_P, nwR_N, nwR_Ks, nwR_Ko, pwR_R, pwR_s, pwR_o, upI_same, upL_same, upI_ne, upL_ne, iI_ixN, zI_mk, zL_mk, zP_mk, zK_mk, zN_mk, zwI_up, zwL_up, zg_some, Nat.reduceMod, Nat.reduceDiv, zcn_I]; rfl⟩ (by decide +kernel) (by decide +kernel) ?_
  refine minit_ok (y := N + 17) (by omega) (by simp (disch := omega) only [Nat.add_assoc, iI_ix, Int.toNat_natCast, Int.reduceToNat, Nat.reduceAdd, znew_up, zwP_up, nwR_P, nwR_N, nwR_Ks, nwR_Ko, pwR_R, pwR_s, pwR_o, upI_same, upL_same, upI_ne, upL_ne, iI_ixN, zI_mk, zL_mk, zP_mk, zK_mk, zN_mk, zwI_up, zwL_up, zg_some, Nat.reduceMod, Nat.reduceDiv, zcn_I]) (by simp (disch := omega) only [Nat.add_assoc, iI_ix, Int.toNat_natCast, Int.reduceToNat, Nat.reduceAdd, znew_up, zwP_up, nwR_P, nwR_N, nwR_Ks, nwR_Ko, pwR_R, pwR_s, pwR_o, upI_same, upL_same, upI_ne, upL_ne, iI_ixN, zI_mk, zL_mk, zP_mk, zK_mk, zN_mk, zwI_up, zwL_up, zg_some, Nat.reduceMod, Nat.reduceDiv, zcn_I]) (fun R2 k1 k2 k3 => ?_)
  have B2 : R2.2.1 b = some (30, L) := by
    rw [(k1 b (by omega)).2]
    simp (disch := omega) only [Nat.add_assoc, iI_ix, Int.toNat_natCast, Int.reduceToNat, Nat.reduceAdd, znew_up, zwP_up, nwR_P, nwR_N, nwR_Ks, nwR_Ko, pwR_R, pwR_s, pwR_o, upI_same, upL_same, upI_ne, upL_ne, iI_ixN, zI_mk, zL_mk, zP_mk, zK_mk, zN_mk, zwI_up, zwL_up, zg_some, Nat.reduceMod, Nat.reduceDiv, zcn_I, B1]
  have X2 : tFix N R2 := tFix_cg (fun a q1 q2 => by
    rw [(k1 a (by omega)).2]
    simp (disch := omega) only [Nat.add_assoc, iI_ix, Int.toNat_natCast, Int.reduceToNat, Nat.reduceAdd, znew_up, zwP_up, nwR_P, nwR_N, nwR_Ks, nwR_Ko, pwR_R, pwR_s, pwR_o, upI_same, upL_same, upI_ne, upL_ne, iI_ixN, zI_mk, zL_mk, zP_mk, zK_mk, zN_mk, zwI_up, zwL_up, zg_some, Nat.reduceMod, Nat.reduceDiv, zcn_I]) (fun a q1 q2 q3 q4 => by
    rw [(k1 a (by omega)).1]
    rfl) g3
  refine zW.gm [] rfl rfl rfl (by omega) trivial ⟨show ¬ zcn 1 < 0 by decide, show (zcn 1).toNatClampNeg < 1000000 by decide⟩ (by decide +kernel) (by decide +kernel) (fun f3 => ?_)
  simp (disch := omega) only [Nat.add_assoc, iI_ix, Int.toNat_natCast, Int.reduceToNat, Nat.reduceAdd, znew_up, zwP_up, nwR_P, nwR_N, nwR_Ks, nwR_Ko, pwR_R, pwR_s, pwR_o, upI_same, upL_same, upI_ne, upL_ne, iI_ixN, zI_mk, zL_mk, zP_mk, zK_mk, zN_mk, zwI_up, zwL_up, zg_some, Nat.reduceMod, Nat.reduceDiv, zcn_I, k2]
  refine zW.gm [] rfl rfl rfl (by omega) trivial ⟨show ¬ zcn 1 < 0 by decide, show (zcn 1).toNatClampNeg < 1000000 by decide⟩ (by decide +kernel) (by decide +kernel) (fun f4 => ?_)
  simp (disch := omega) only [Nat.add_assoc, iI_ix, Int.toNat_natCast, Int.reduceToNat, Nat.reduceAdd, znew_up, zwP_up, nwR_P, nwR_N, nwR_Ks, nwR_Ko, pwR_R, pwR_s, pwR_o, upI_same, upL_same, upI_ne, upL_ne, iI_ixN, zI_mk, zL_mk, zP_mk, zK_mk, zN_mk, zwI_up, zwL_up, zg_some, Nat.reduceMod, Nat.reduceDiv, zcn_I, k2]
  refine zW.go [28] rfl (by omega) trivial ?_
  have M2 := mf_0 (I := I) (L := Lg) k3 k2 (fun a q => hI a (by omega))
  refine llop (xs := xs) (T := T0) hL 512 0 _ _ _ _ _ _ _ (by omega) (by omega) (zcn_I _) ⟨⟨fun _ => 0, fun _ => 0, tf_0 (tFix_cg (fun a q1 q2 => ?_) (fun a q1 q2 _ _ => ?_) X2) (by omega) ?_ ?_ ?_⟩, mf_fr M2 (fun a q1 q2 => ⟨rfl, rfl, ?_, ?_⟩) ?_, ?_, ?_, ?_, ?_, hN⟩ (by unfold bgc; decide +kernel) (by unfold bgs; decide +kernel)
  · rw [nwR_Ko (by omega), nwR_Ko (by omega)]
  · rfl
  · show N + 1960 ≤ N + 1959 + 1
    omega
  · rw [upI_row (by omega)]
    exact hI _ (by omega)
  · rw [upI_row (by omega)]
    exact hI _ (by omega)
  · rfl
  · show (nwR (nwR R2 (N + 1958) 21 1) (N + 1959) 24 1).2.1 a = R2.2.1 a
    rw [nwR_Ko (by omega), nwR_Ko (by omega)]
  · show R2.2.2 ≤ N + 1959 + 1
    omega
  · show (nwR (nwR R2 (N + 1958) 21 1) (N + 1959) 24 1).2.1 b = _
    rw [nwR_Ko (by omega), nwR_Ko (by omega)]
    exact B2
  · show upI I (N + 17) 34 (iI (-1)) b = xs
    rw [upI_row (by omega)]
    exact hI0
  · show (nwR (nwR R2 (N + 1958) 21 1) (N + 1959) 24 1).2.1 (N + 1958) = _
    rw [nwR_Ko (by omega), nwR_Ks rfl]
  · show (nwR (nwR R2 (N + 1958) 21 1) (N + 1959) 24 1).2.1 (N + 1959) = _
    rw [nwR_Ks rfl]
end LSTA
