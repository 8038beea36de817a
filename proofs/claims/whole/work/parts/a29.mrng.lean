/-! The model makes rings. -/
noncomputable def pzRs (w : zPz) (f : Nat → Nat) : zPz := pzSt (pzRg w f) (pzS w)
noncomputable def tRng0 (T : tfT) (i : Nat) (f : Nat → Nat) : tfT := (([], tPn T, fun k => if k = i then pzRs (tPz T i) f else tPz T k), T.2)
theorem tRng0_f {T : tfT} {i s : Nat} : tSetP (tRng0 T i (tyT T s)) i (pzSt (tPz (tRng0 T i (tyT T s)) i) (fun p => p)) = tRing T i s := by
  have e0 : tPz (tRng0 T i (tyT T s)) i = pzRs (tPz T i) (tyT T s) := if_pos rfl
  rw [e0]
  have e : (fun k => if k = i then pzSt (pzRs (tPz T i) (tyT T s)) (fun p => p) else tPz (tRng0 T i (tyT T s)) k) = fun k => if k = i then pzRg (tPz T i) (tyT T s) else tPz T k := funext fun k => by
    by_cases q : k = i
    · rw [if_pos q, if_pos q]
      rfl
    · rw [if_neg q, if_neg q]
      exact if_neg q
  show (([], tPn T, fun k => if k = i then pzSt (pzRs (tPz T i) (tyT T s)) (fun p => p) else tPz (tRng0 T i (tyT T s)) k), T.2) = _
  rw [e]
  rfl
def rgi (cnt step : Nat) (pl : Nat → Nat) : Nat → Nat → Nat
  | 0 => fun p => p
  | k + 1 => fu (rgi cnt step pl k) (pl k) (pl ((k + step) % cnt))
theorem rgi_at {cnt step : Nat} {pl : Nat → Nat} (hpl : ∀ i j, i < cnt → j < cnt → pl i = pl j → i = j) : ∀ k, k ≤ cnt → (∀ i, i < k → rgi cnt step pl k (pl i) = pl ((i + step) % cnt)) ∧ ∀ p, (∀ i, i < k → p ≠ pl i) → rgi cnt step pl k p = p
  | 0, _ => ⟨fun i h => absurd h (Nat.not_lt_zero i), fun _ _ => rfl⟩
  | k + 1, hk => by
    obtain ⟨h1, h2⟩ := rgi_at (step := step) hpl k (by omega)
    refine ⟨fun i hi => ?_, fun p hp => ?_⟩
    · show fu (rgi cnt step pl k) (pl k) (pl ((k + step) % cnt)) (pl i) = pl ((i + step) % cnt)
      unfold fu
      by_cases c : i = k
      · rw [c, if_pos rfl]
      · rw [if_neg fun q => c (hpl _ _ (by omega) (by omega) q)]
        exact h1 i (by omega)
    · show fu (rgi cnt step pl k) (pl k) (pl ((k + step) % cnt)) p = p
      unfold fu
      rw [if_neg (hp k (by omega))]
      exact h2 p fun i hi => hp i (by omega)
theorem rgi_vi {cnt step : Nat} {pl : Nat → Nat} (hpl : ∀ i j, i < cnt → j < cnt → pl i = pl j → i = j) (hs : step < cnt) (hn : ∀ i, i < cnt → pl i < 10) (p : Nat) : rgi cnt step pl cnt p = vi 10 (rgT cnt step pl) p := by
  have hpm : pm 10 (rgT cnt step pl) := rgT_pm hpl hs hn
  have key : rgT cnt step pl (rgi cnt step pl cnt p) = p := by
    by_cases h : ∃ j, j < cnt ∧ p = pl j
    · obtain ⟨j, hj, rfl⟩ := h
      rw [(rgi_at hpl cnt (Nat.le_refl _)).1 j hj]
      exact (rgk_at (step := step) hpl cnt (Nat.le_refl _)).1 j hj
    · have hno : ∀ i, i < cnt → p ≠ pl i := fun i hi q => h ⟨i, hi, q⟩
      rw [(rgi_at hpl cnt (Nat.le_refl _)).2 p hno, rgT_o hpl (by omega) hno]
  have := vi_l hpm (rgi cnt step pl cnt p)
  rw [key] at this
  exact this.symm
section MRNG
variable {d y : Nat} {T : tfT} {I : Nat → Nat → Int32} {L : Nat → Nat → Int64} {R : zRt} {Q : zO → zM → Prop}
theorem mf_ring {i : Nat} {g : Nat → Nat} {I' : Nat → Nat → Int32} (h : mf y T (I, L, R)) (hi : i < tPn T) (hr : pzR (tPz T i) < 4) (hz : zOK (pzN (tPz T i)) (pzR (tPz T i) + 1) (tnS (pzR (tPz T i)) (pzT (tPz T i)) g) (pzC (tPz T i)) (pzS (tPz T i))) (f : ∀ a, ¬ scA y a → a ≠ y + 3 → a ≠ y + 6 + 9 * i + 2 * pzR (tPz T i) → a ≠ y + 6 + 9 * i + 2 * pzR (tPz T i) + 1 → I' a = I a) (f0 : ∀ k, k = 33 ∨ k = 35 ∨ k = 38 ∨ k = 39 ∨ k = 40 → I' y k = I y k) (f32 : I' y 32 = iI 0) (f34 : I' y 34 = iI (-1)) (f3 : I' (y + 3) i = iI ((pzR (tPz T i) + 1 : Nat) : Int)) (f3' : ∀ k, k ≠ i → I' (y + 3) k = I (y + 3) k) (ta : ∀ p, p < 10 → I' (y + 6 + 9 * i + 2 * pzR (tPz T i)) p = iI (g p : Int)) (tb : ∀ p, p < 10 → I' (y + 6 + 9 * i + 2 * pzR (tPz T i) + 1) p = iI (vi 10 g p : Int)) : mf y (tRng0 T i g) (I', L, R) := by
  obtain ⟨hT, hM, hN, ⟨a1, a2⟩, ⟨b1, b2, b3⟩, ⟨c1, c2⟩, ⟨d1, d2⟩, ⟨g1, g2, g3⟩, gg, l⟩ := h
  have hp4 := hT.2.1.1
  have hr8 := hT.2.2.2.2.1.1
  have hI : ∀ a, ¬ scA y a → a ≠ y + 3 → ¬ (y + 6 ≤ a ∧ a ≤ y + 41) → I' a = I a := fun a q1 q2 q3 => f a q1 q2 (by omega) (by omega)
  refine ⟨⟨⟨Nat.zero_le _, fun i hi => absurd hi (Nat.not_lt_zero _), fun i j _ hj => absurd hj (Nat.not_lt_zero _)⟩, ⟨hp4, fun k hk => ?_⟩, hT.2.2⟩, hM, hN, ⟨f32, fun k hk => absurd hk (Nat.not_lt_zero k)⟩, ⟨(f0 33 (by omega)).trans b1, fun k hk => ?_, fun k q1 q2 => ?_⟩, ⟨(f0 35 (by omega)).trans c1, ?_⟩, ⟨(f0 38 (by omega)).trans d1, fun c hc => ?_⟩, ⟨(f0 39 (by omega)).trans g1, fun j hj => mRd_cg (by have : j < tRn T := hj; omega) (g2 j hj) (fun a q1 q2 => hI a (fun q => by unfold scA at q; omega) (by omega) (by omega)), fun j q1 q2 => mR0_cg q2 (g3 j q1 q2) (fun a q1 q2 => hI a (fun q => by unfold scA at q; omega) (by omega) (by omega))⟩, (f0 40 (by omega)).trans gg, Or.inl f34⟩
  · show zOK (pzN (if k = i then pzRs (tPz T i) g else tPz T k)) (pzR (if k = i then pzRs (tPz T i) g else tPz T k)) (pzT (if k = i then pzRs (tPz T i) g else tPz T k)) (pzC (if k = i then pzRs (tPz T i) g else tPz T k)) (pzS (if k = i then pzRs (tPz T i) g else tPz T k))
    by_cases q : k = i
    · rw [if_pos q]
      exact hz
    · rw [if_neg q]
      exact hT.2.1.2 k hk
  · show mPz y k I' (if k = i then pzRs (tPz T i) g else tPz T k)
    have hk : k < tPn T := hk
    by_cases q : k = i
    · rw [if_pos q, q]
      obtain ⟨w1, w2, w3, w4, w5⟩ := b2 i hi
      refine ⟨?_, f3, fun a p ha hp => ?_, fun p hp => ?_, fun p hp => ?_⟩
      · rw [hI _ (fun q => by unfold scA at q; omega) (by omega) (by omega)]
        exact w1
      · have ha : a < 2 * (pzR (tPz T i) + 1) := ha
        show _ = iI (tnS (pzR (tPz T i)) (pzT (tPz T i)) g a p : Int)
        unfold tnS
        by_cases q1 : a = 2 * pzR (tPz T i)
        · rw [if_pos q1, q1]
          exact ta p hp
        · rw [if_neg q1]
          by_cases q2 : a = 2 * pzR (tPz T i) + 1
          · rw [if_pos q2, q2]
            exact tb p hp
          · rw [if_neg q2, f _ (fun q => by unfold scA at q; omega) (by omega) (by omega) (by omega)]
            exact w3 a p (by omega) hp
      · rw [hI _ (fun q => by unfold scA at q; omega) (by omega) (by omega)]
        exact w4 p hp
      · rw [hI _ (fun q => by unfold scA at q; omega) (by omega) (by omega)]
        exact w5 p hp
    · rw [if_neg q]
      refine mPz_cg (b2 k hk) (hT.2.1.2 k hk).2.2.1 ?_ (f3' k q) (fun a ha => ?_) ?_ ?_
      · exact congrFun (hI _ (fun q => by unfold scA at q; omega) (by omega) (by omega)) _
      · exact f _ (fun q => by unfold scA at q; omega) (by omega) (by omega) (by omega)
      · exact hI _ (fun q => by unfold scA at q; omega) (by omega) (by omega)
      · exact hI _ (fun q => by unfold scA at q; omega) (by omega) (by omega)
  · have q1 : tPn T ≤ k := q1
    exact (f3' k (by omega)).trans (b3 k q1 q2)
  · show hl (I' (y + 1782)) _
    rw [hI _ (fun q => by unfold scA at q; omega) (by omega) (by omega)]
    exact c2
  · exact (congrFun (hI _ (fun q => by unfold scA at q; omega) (by omega) (by omega)) _).trans (d2 c hc)
/-- the rows are made the unturned -/
theorem rng_id {i s ra rb : Nat} {x3 : Int32} (hd : 1 ≤ d) (ka : R.2.1 ra = some (20, 10)) (kb : R.2.1 rb = some (20, 10)) (hab : ra ≠ rb)
    (hQ : ∀ I', (∀ r, r ≠ ra → r ≠ rb → I' r = I r) → (∀ p : Nat, p < 10 → I' ra p = iI (p : Int)) → (∀ p : Nat, p < 10 → I' rb p = iI (p : Int)) → zW 168 d 0 0 193 [some (zr (some y)), some (zi (iI (i : Int))), some (zi (iI (s : Int))), some (zi x3), some (zr (some ra)), some (zr (some rb)), some (zi (iI 10)), none] [] (I', L, R) Q) :
    ∀ n k, k + n = 10 → ∀ (I1 : Nat → Nat → Int32) (x : Int32), (∀ r, r ≠ ra → r ≠ rb → I1 r = I r) → (∀ p, p < k → I1 ra p = iI (p : Int)) → (∀ p, p < k → I1 rb p = iI (p : Int)) → x = iI (k : Int) → zW 168 d 0 0 166 [some (zr (some y)), some (zi (iI (i : Int))), some (zi (iI (s : Int))), some (zi x3), some (zr (some ra)), some (zr (some rb)), some (zi x), none] [] (I1, L, R) Q
  | 0, k, hk, I1, x, f1, f2, f3, e => by
    subst e
    obtain rfl : k = 10 := by omega
    exact zW.gbt [] rfl rfl rfl (by omega) trivial (by simp (disch := omega) only [eq_self, not_true_eq_false, not_false_eq_true, upI_same, upL_same, upI_ne, upL_ne, iI_ixN, zI_mk, zL_mk, zP_mk, zK_mk, zN_mk, zwI_up, zwL_up, zg_some, Nat.reduceMod, Nat.reduceDiv, zcn_I, iI_add, iI_sub, iI_mul, iI_neg, iI_lt, iI_le, iI_eq, iI_lt0, iI_le0, iI_gt0, iI_ge0, iI_eq0] <;> omega) (hQ I1 f1 f2 f3)
  | n + 1, k, hk, I1, x, f1, f2, f3, e => by
    subst e
    refine zW.gbf [] rfl rfl rfl (by omega) trivial (by simp (disch := omega) only [eq_self, not_true_eq_false, not_false_eq_true, upI_same, upL_same, upI_ne, upL_ne, iI_ixN, zI_mk, zL_mk, zP_mk, zK_mk, zN_mk, zwI_up, zwL_up, zg_some, Nat.reduceMod, Nat.reduceDiv, zcn_I, iI_add, iI_sub, iI_mul, iI_neg, iI_lt, iI_le, iI_eq, iI_lt0, iI_le0, iI_gt0, iI_ge0, iI_eq0] <;> omega) ?_
    refine zW.go [166] rfl (by omega) (by simp (disch := omega) only [true_or, or_true, eq_self, Option.some.injEq, Prod.mk.injEq, zall_0, zall_1, zall_2, zob_iff, zar_iff, zis_iff, zkIs_some, zkHas_some, iI_vp, z01_I, z01_bz, zch_I, true_and, and_true, or_false, false_or, and_self, upI_same, upL_same, upI_ne, upL_ne, iI_ixN, zI_mk, zL_mk, zP_mk, zK_mk, zN_mk, zwI_up, zwL_up, zg_some, Nat.reduceMod, Nat.reduceDiv, zcn_I, iI_add, iI_sub, iI_mul, iI_neg, iI_lt, iI_le, iI_eq, iI_lt0, iI_le0, iI_gt0, iI_ge0, iI_eq0, ka, kb] <;> omega) ?_
    simp (disch := omega) only [upI_same, upL_same, upI_ne, upL_ne, iI_ixN, zI_mk, zL_mk, zP_mk, zK_mk, zN_mk, zwI_up, zwL_up, zg_some, Nat.reduceMod, Nat.reduceDiv, zcn_I, iI_add, iI_sub, iI_mul, iI_neg, iI_lt, iI_le, iI_eq, iI_lt0, iI_le0, iI_gt0, iI_ge0, iI_eq0]
    refine rng_id hd ka kb hab hQ n (k + 1) (by omega) _ _ (fun r q1 q2 => by rw [upI_row (by omega), upI_row (by omega)]; exact f1 r q1 q2) (fun p hp => ?_) (fun p hp => ?_) rfl
    · rw [upI_row hab]
      by_cases q : p = k
      · rw [q, upI_same]
      · rw [upI_ne (by omega)]
        exact f2 p (by omega)
    · by_cases q : p = k
      · rw [q, upI_same]
      · rw [upI_ne (by omega), upI_row (by omega)]
        exact f3 p (by omega)
theorem mod_I {a b : Nat} (h1 : a < 2147483648) (h2 : 0 < b) (h3 : b < 2147483648) : iI (a : Int) - iI (a : Int) / iI (b : Int) * iI (b : Int) = iI ((a % b : Nat) : Int) := by
  rw [iI_mod (by omega) (by omega) (by omega) (by omega)]
  exact iI_cg (by omega)
theorem rng_put {i s cnt ra rb : Nat} {x3 : Int32} {pl : Nat → Nat} (hd : 1 ≤ d) (hM : ML y R) (ka : R.2.1 ra = some (20, 10)) (kb : R.2.1 rb = some (20, 10)) (hab : ra ≠ rb) (hay : ra ≠ y) (hby : rb ≠ y) (ha1 : ra ≠ y + 1) (hb1 : rb ≠ y + 1) (hc8 : cnt ≤ 8) (hs : s < cnt) (hpl : ∀ m, m < cnt → pl m < 10) (vc : I y 32 = iI (cnt : Int)) (vp : ∀ m, m < cnt → I (y + 1) m = iI (pl m : Int))
    (hQ : ∀ I' x v, (∀ r, r ≠ ra → r ≠ rb → I' r = I r) → (∀ p, p < 10 → I' ra p = iI (rgk cnt s pl cnt p : Int)) → (∀ p, p < 10 → I' rb p = iI (rgi cnt s pl cnt p : Int)) → zW 168 d 0 0 251 [some (zr (some y)), some (zi (iI (i : Int))), some (zi (iI (s : Int))), some (zi x3), some (zr (some ra)), some (zr (some rb)), some (zi x), v] [] (I', L, R) Q) :
    ∀ n k, k + n = cnt → ∀ (I1 : Nat → Nat → Int32) (x : Int32) (v : Option zV), (∀ r, r ≠ ra → r ≠ rb → I1 r = I r) → (∀ p, p < 10 → I1 ra p = iI (rgk cnt s pl k p : Int)) → (∀ p, p < 10 → I1 rb p = iI (rgi cnt s pl k p : Int)) → x = iI (k : Int) → zW 168 d 0 0 196 [some (zr (some y)), some (zi (iI (i : Int))), some (zi (iI (s : Int))), some (zi x3), some (zr (some ra)), some (zr (some rb)), some (zi x), v] [] (I1, L, R) Q
  | 0, k, hk, I1, x, v, f1, f2, f3, e => by
    subst e
    have k0 : R.2.1 y = some (7, 0) := hM.1
    have vc1 : I1 y 32 = iI (cnt : Int) := by rw [f1 y (by omega) (by omega)]; exact vc
    obtain rfl : k = cnt := by omega
    exact zW.gbt [] rfl rfl rfl (by omega) (by simp (disch := omega) only [true_or, or_true, eq_self, Option.some.injEq, Prod.mk.injEq, zall_0, zall_1, zall_2, zob_iff, zar_iff, zis_iff, zkIs_some, zkHas_some, iI_vp, z01_I, z01_bz, zch_I, true_and, and_true, or_false, false_or, and_self, upI_same, upL_same, upI_ne, upL_ne, iI_ixN, zI_mk, zL_mk, zP_mk, zK_mk, zN_mk, zwI_up, zwL_up, zg_some, Nat.reduceMod, Nat.reduceDiv, zcn_I, iI_add, iI_sub, iI_mul, iI_neg, iI_lt, iI_le, iI_eq, iI_lt0, iI_le0, iI_gt0, iI_ge0, iI_eq0, k0] <;> omega) (by simp (disch := omega) only [eq_self, not_true_eq_false, not_false_eq_true, upI_same, upL_same, upI_ne, upL_ne, iI_ixN, zI_mk, zL_mk, zP_mk, zK_mk, zN_mk, zwI_up, zwL_up, zg_some, Nat.reduceMod, Nat.reduceDiv, zcn_I, iI_add, iI_sub, iI_mul, iI_neg, iI_lt, iI_le, iI_eq, iI_lt0, iI_le0, iI_gt0, iI_ge0, iI_eq0, vc1] <;> omega) (hQ I1 _ _ f1 f2 f3)
  | n + 1, k, hk, I1, x, v, f1, f2, f3, e => by
    subst e
    have k0 : R.2.1 y = some (7, 0) := hM.1
    have p0 : R.1 y 0 = some (y + 1) := (hM.2.1 0 (by decide)).1
    have k1 : R.2.1 (y + 1) = some (20, 8) := (hM.2.1 0 (by decide)).2
    have vc1 : I1 y 32 = iI (cnt : Int) := by rw [f1 y (by omega) (by omega)]; exact vc
    have hlt : (k + s) % cnt < cnt := Nat.mod_lt _ (by omega)
    have v1 : I1 (y + 1) k = iI (pl k : Int) := by rw [f1 _ (by omega) (by omega)]; exact vp k (by omega)
    have v2 : I1 (y + 1) ((k + s) % cnt) = iI (pl ((k + s) % cnt) : Int) := by rw [f1 _ (by omega) (by omega)]; exact vp _ hlt
    have l1 := hpl k (by omega)
    have l2 := hpl _ hlt
    have em : iI ((k : Int) + (s : Int)) - iI ((k : Int) + (s : Int)) / iI (cnt : Int) * iI (cnt : Int) = iI (((k + s) % cnt : Nat) : Int) := by
      rw [← mod_I (by omega) (by omega) (by omega)]
      rfl
    have hdv : ¬ iI (cnt : Int) = 0 := fun q => by
      rw [iI_eq0 (by omega) (by omega)] at q
      omega
    refine zW.gbf [] rfl rfl rfl (by omega) (by simp (disch := omega) only [true_or, or_true, eq_self, Option.some.injEq, Prod.mk.injEq, zall_0, zall_1, zall_2, zob_iff, zar_iff, zis_iff, zkIs_some, zkHas_some, iI_vp, z01_I, z01_bz, zch_I, true_and, and_true, or_false, false_or, and_self, upI_same, upL_same, upI_ne, upL_ne, iI_ixN, zI_mk, zL_mk, zP_mk, zK_mk, zN_mk, zwI_up, zwL_up, zg_some, Nat.reduceMod, Nat.reduceDiv, zcn_I, iI_add, iI_sub, iI_mul, iI_neg, iI_lt, iI_le, iI_eq, iI_lt0, iI_le0, iI_gt0, iI_ge0, iI_eq0, k0] <;> omega) (by simp (disch := omega) only [eq_self, not_true_eq_false, not_false_eq_true, upI_same, upL_same, upI_ne, upL_ne, iI_ixN, zI_mk, zL_mk, zP_mk, zK_mk, zN_mk, zwI_up, zwL_up, zg_some, Nat.reduceMod, Nat.reduceDiv, zcn_I, iI_add, iI_sub, iI_mul, iI_neg, iI_lt, iI_le, iI_eq, iI_lt0, iI_le0, iI_gt0, iI_ge0, iI_eq0, vc1] <;> omega) ?_
    refine zW.go [196] rfl (by omega) ?_ ?_
    · simp (disch := omega) only [true_or, or_true, eq_self, Option.some.injEq, Prod.mk.injEq, zall_0, zall_1, zall_2, zob_iff, zar_iff, zis_iff, zkIs_some, zkHas_some, iI_vp, z01_I, z01_bz, zch_I, true_and, and_true, or_false, false_or, and_self, upI_same, upL_same, upI_ne, upL_ne, iI_ixN, zI_mk, zL_mk, zP_mk, zK_mk, zN_mk, zwI_up, zwL_up, zg_some, Nat.reduceMod, Nat.reduceDiv, zcn_I, iI_add, iI_sub, iI_mul, iI_neg, iI_lt, iI_le, iI_eq, iI_lt0, iI_le0, iI_gt0, iI_ge0, iI_eq0, k0, p0, k1, vc1, v1, v2, em, hdv, ka, kb, not_false_eq_true]
      omega
    simp (disch := omega) only [upI_same, upL_same, upI_ne, upL_ne, iI_ixN, zI_mk, zL_mk, zP_mk, zK_mk, zN_mk, zwI_up, zwL_up, zg_some, Nat.reduceMod, Nat.reduceDiv, zcn_I, iI_add, iI_sub, iI_mul, iI_neg, iI_lt, iI_le, iI_eq, iI_lt0, iI_le0, iI_gt0, iI_ge0, iI_eq0, p0, vc1, v1, v2, em]
    refine rng_put hd hM ka kb hab hay hby ha1 hb1 hc8 hs hpl vc vp hQ n (k + 1) (by omega) _ _ _ (fun r q1 q2 => by rw [upI_row (by omega), upI_row (by omega)]; exact f1 r q1 q2) (fun p hp => ?_) (fun p hp => ?_) rfl
    · rw [upI_row hab]
      show _ = iI (fu (rgk cnt s pl k) (pl ((k + s) % cnt)) (pl k) p : Int)
      unfold fu
      by_cases q : p = pl ((k + s) % cnt)
      · rw [if_pos q, q, upI_same]
      · rw [if_neg q, upI_ne (by omega)]
        exact f2 p hp
    · show _ = iI (fu (rgi cnt s pl k) (pl k) (pl ((k + s) % cnt)) p : Int)
      unfold fu
      by_cases q : p = pl k
      · rw [if_pos q, q, upI_same]
      · rw [if_neg q, upI_ne (by omega), upI_row (by omega)]
        exact f3 p hp
theorem mRing_lp {i : Nat} {s : Int} (hd : 2 ≤ d) (h : mf y T (I, L, R)) (hi : i < tPn T) {B : Prop}
    (hQ : ∀ q x, tru (B ∧ ∀ k, k < (tTy T).length → nth (tTy T) k < pzN (tPz T i)) q → zW 168 d 0 0 85 [some (zr (some y)), some (zi (iI (i : Int))), some (zi (iI s)), some (zi q), some (zi x), none, none, none] [] (I, L, R) Q) :
    ∀ n k, k + n = (tTy T).length → ∀ (q x : Int32), tru (B ∧ ∀ m, m < k → nth (tTy T) m < pzN (tPz T i)) q → x = iI (k : Int) → zW 168 d 0 0 46 [some (zr (some y)), some (zi (iI (i : Int))), some (zi (iI s)), some (zi q), some (zi x), none, none, none] [] (I, L, R) Q
  | 0, k, hk, q, x, hq, e => by
    subst e
    have k0 : R.2.1 y = some (7, 0) := h.2.1.1
    obtain ⟨⟨a1, a2⟩, -⟩ := m_own h
    have h8 := h.1.1.1
    obtain rfl : k = (tTy T).length := by omega
    exact zW.gbt [] rfl rfl rfl (by omega) (by simp (disch := omega) only [true_or, or_true, eq_self, Option.some.injEq, Prod.mk.injEq, zall_0, zall_1, zall_2, zob_iff, zar_iff, zis_iff, zkIs_some, zkHas_some, iI_vp, z01_I, z01_bz, zch_I, true_and, and_true, or_false, false_or, and_self, upI_same, upL_same, upI_ne, upL_ne, iI_ixN, zI_mk, zL_mk, zP_mk, zK_mk, zN_mk, zwI_up, zwL_up, zg_some, Nat.reduceMod, Nat.reduceDiv, zcn_I, iI_add, iI_sub, iI_mul, iI_neg, iI_lt, iI_le, iI_eq, iI_lt0, iI_le0, iI_gt0, iI_ge0, iI_eq0, k0] <;> omega) (by simp (disch := omega) only [eq_self, not_true_eq_false, not_false_eq_true, upI_same, upL_same, upI_ne, upL_ne, iI_ixN, zI_mk, zL_mk, zP_mk, zK_mk, zN_mk, zwI_up, zwL_up, zg_some, Nat.reduceMod, Nat.reduceDiv, zcn_I, iI_add, iI_sub, iI_mul, iI_neg, iI_lt, iI_le, iI_eq, iI_lt0, iI_le0, iI_gt0, iI_ge0, iI_eq0, a1] <;> omega) (hQ _ _ hq)
  | n + 1, k, hk, q, x, hq, e => by
    subst e
    have hM := h.2.1
    have k0 : R.2.1 y = some (7, 0) := hM.1
    have p0 : R.1 y 0 = some (y + 1) := (hM.2.1 0 (by decide)).1
    have k00 : R.2.1 (y + 1) = some (20, 8) := (hM.2.1 0 (by decide)).2
    obtain ⟨⟨a1, a2⟩, -⟩ := m_own h
    have h8 := h.1.1.1
    have v1 := a2 k (by omega)
    have l1 := h.1.1.2.1 k (by omega)
    obtain ⟨h4, hz, w1, w2, w3, w4, w5⟩ := m_pz h hi
    have hn := hz.2.1
    have p1 : R.1 y 1 = some (y + 2) := (hM.2.1 1 (by decide)).1; have k1 : R.2.1 (y + 2) = some (20, 4) := (hM.2.1 1 (by decide)).2
    have NX : ∀ u, tru (nth (tTy T) k < pzN (tPz T i)) u → zW 168 d 0 0 77 [some (zr (some y)), some (zi (iI (i : Int))), some (zi (iI s)), some (zi q), some (zi (iI (k : Int))), none, none, none] [zi u, zi q] (I, L, R) Q := fun u hu => by
      refine zW.go [46] rfl (by omega) trivial ?_
      refine mRing_lp hd h hi hQ n (k + 1) (by omega) _ _ (tru_cg ?_ (tru_and hq hu)) (by rw [zcn_I, iI_add]; rfl)
      exact ⟨fun ⟨⟨q1, q2⟩, q3⟩ => ⟨q1, all_s.mp ⟨q2, q3⟩⟩, fun ⟨q1, q2⟩ => ⟨⟨q1, (all_s.mpr q2).1⟩, (all_s.mpr q2).2⟩⟩
    refine zW.gbf [] rfl rfl rfl (by omega) (by simp (disch := omega) only [true_or, or_true, eq_self, Option.some.injEq, Prod.mk.injEq, zall_0, zall_1, zall_2, zob_iff, zar_iff, zis_iff, zkIs_some, zkHas_some, iI_vp, z01_I, z01_bz, zch_I, true_and, and_true, or_false, false_or, and_self, upI_same, upL_same, upI_ne, upL_ne, iI_ixN, zI_mk, zL_mk, zP_mk, zK_mk, zN_mk, zwI_up, zwL_up, zg_some, Nat.reduceMod, Nat.reduceDiv, zcn_I, iI_add, iI_sub, iI_mul, iI_neg, iI_lt, iI_le, iI_eq, iI_lt0, iI_le0, iI_gt0, iI_ge0, iI_eq0, k0] <;> omega) (by simp (disch := omega) only [eq_self, not_true_eq_false, not_false_eq_true, upI_same, upL_same, upI_ne, upL_ne, iI_ixN, zI_mk, zL_mk, zP_mk, zK_mk, zN_mk, zwI_up, zwL_up, zg_some, Nat.reduceMod, Nat.reduceDiv, zcn_I, iI_add, iI_sub, iI_mul, iI_neg, iI_lt, iI_le, iI_eq, iI_lt0, iI_le0, iI_gt0, iI_ge0, iI_eq0, a1] <;> omega) ?_
    refine zW.gb [] rfl rfl rfl (by omega) (by simp (disch := omega) only [true_or, or_true, eq_self, Option.some.injEq, Prod.mk.injEq, zall_0, zall_1, zall_2, zob_iff, zar_iff, zis_iff, zkIs_some, zkHas_some, iI_vp, z01_I, z01_bz, zch_I, true_and, and_true, or_false, false_or, and_self, upI_same, upL_same, upI_ne, upL_ne, iI_ixN, zI_mk, zL_mk, zP_mk, zK_mk, zN_mk, zwI_up, zwL_up, zg_some, Nat.reduceMod, Nat.reduceDiv, zcn_I, iI_add, iI_sub, iI_mul, iI_neg, iI_lt, iI_le, iI_eq, iI_lt0, iI_le0, iI_gt0, iI_ge0, iI_eq0, k0, p0, k00, p1, k1] <;> omega) (fun h' => ?_) (fun h' => ?_) <;> simp (disch := omega) only [zcn_I, iI_add, iI_sub, iI_mul, iI_neg, iI_lt, iI_le, iI_eq, iI_lt0, iI_le0, iI_gt0, iI_ge0, iI_eq0, upI_same, upL_same, upI_ne, upL_ne, iI_ixN, zI_mk, zL_mk, zP_mk, zK_mk, zN_mk, zwI_up, zwL_up, zg_some, Nat.reduceMod, Nat.reduceDiv, p0, p1, v1, w1] at h'
    · exact zW.go [77] rfl (by omega) trivial (NX _ (tru_f (by omega)))
    · exact zW.go [77] rfl (by omega) trivial (NX _ (tru_t (by omega)))
theorem mRing_ok {p s : Int} {a b : Int32} (hd : 6 ≤ d) (h : mf y T (I, L, R)) (e1 : a = iI p) (e2 : b = iI s) (h1 : i32 p) (h2 : i32 s) (hQ : mP y (I, L, R) (oRing T p s) eI Q) : zS 168 d [zr (some y), zi a, zi b] (I, L, R) Q := by
  subst e1; subst e2
  have hM := h.2.1
  have k0 : R.2.1 y = some (7, 0) := hM.1
  refine zW.gz [] rfl rfl rfl (by omega) trivial ⟨_, rfl, k0⟩ rfl rfl (by decide +kernel) (by decide +kernel) ?_
  refine noPz_ok (by omega) h rfl h1 (fun q hq => ?_)
  refine zW.gz [] rfl rfl rfl (by omega) trivial ⟨_, rfl, k0⟩ rfl rfl (by decide +kernel) (by decide +kernel) ?_
  refine mThr_ok (k := 1) (by omega) k0 hq (zcn_I _) (fun hb => ?_) (fun hg => ?_)
  · refine zW.gbf [] rfl rfl rfl (by omega) trivial (by simp (disch := omega) only [eq_self, not_true_eq_false, not_false_eq_true, upI_same, upL_same, upI_ne, upL_ne, iI_ixN, zI_mk, zL_mk, zP_mk, zK_mk, zN_mk, zwI_up, zwL_up, zg_some, Nat.reduceMod, Nat.reduceDiv, zcn_I, iI_add, iI_sub, iI_mul, iI_neg, iI_lt, iI_le, iI_eq, iI_lt0, iI_le0, iI_gt0, iI_ge0, iI_eq0] <;> omega) ?_
    refine zW.gr [] rfl rfl rfl (by omega) trivial trivial ?_; rw [zcn_I]
    refine mP_t hQ (c := 0) (v := 0) ?_ (mf_scr h th_scr) (mgr_o (scr_o th_scr)) (upI_same _ _ _ _) 0
    exact onP_no hb
  · obtain ⟨i, rfl, hi, e⟩ := onP_yes hg
    unfold oRing at hQ
    rw [e] at hQ
    obtain ⟨h4, hz, w1, w2, w3, w4, w5⟩ := m_pz h hi
    have hn := hz.2.1
    have hr4 := hz.2.2.1
    obtain ⟨⟨a1, a2⟩, -⟩ := m_own h
    have h8 := h.1.1.1
    have p2 : R.1 y 2 = some (y + 3) := (hM.2.1 2 (by decide)).1; have k2 : R.2.1 (y + 3) = some (20, 4) := (hM.2.1 2 (by decide)).2
    refine zW.gbt [] rfl rfl rfl (by omega) trivial (by simp (disch := omega) only [eq_self, not_true_eq_false, not_false_eq_true, upI_same, upL_same, upI_ne, upL_ne, iI_ixN, zI_mk, zL_mk, zP_mk, zK_mk, zN_mk, zwI_up, zwL_up, zg_some, Nat.reduceMod, Nat.reduceDiv, zcn_I, iI_add, iI_sub, iI_mul, iI_neg, iI_lt, iI_le, iI_eq, iI_lt0, iI_le0, iI_gt0, iI_ge0, iI_eq0] <;> omega) ?_
    have hm : mf y T (upI I y 41 (iI 0), L, R) := mf_scr h th_scr
    have X : ∀ q, tru ((2 ≤ (tTy T).length ∧ 1 ≤ s ∧ s ≤ ((tTy T).length : Int) - 1)) q → zW 168 d 0 0 42 [some (zr (some y)), some (zi (iI (i : Int))), some (zi (iI s)), none, none, none, none, none] [zi q] (upI I y 41 (iI 0), L, R) Q := fun q hq => by
      refine zW.go [46] rfl (by omega) trivial ?_
      refine mRing_lp (by omega) hm hi (fun q x hq => ?_) (tTy T).length 0 (by omega) _ _ (tru_cg ⟨fun q => ⟨q, all_0⟩, fun q => q.1⟩ hq) (zcn_I _)
      have F : ∀ u, tru (¬ (2 ≤ (tTy T).length ∧ (∀ k, k < (tTy T).length → nth (tTy T) k < pzN (tPz T i)) ∧ 1 ≤ s ∧ s ≤ (tTy T).length - 1)) u → zW 168 d 0 0 95 [some (zr (some y)), some (zi (iI (i : Int))), some (zi (iI s)), some (zi q), some (zi x), none, none, none] [zi u, zr (some y)] (upI I y 41 (iI 0), L, R) Q := fun u hu => by
        refine zW.gz [] rfl rfl rfl (by omega) trivial ⟨_, rfl, k0⟩ rfl rfl (by decide +kernel) (by decide +kernel) ?_
        refine mThr_ok (k := 2) (by omega) k0 hu (zcn_I _) (fun hb => ?_) (fun hb => ?_)
        · refine zW.gbt [] rfl rfl rfl (by omega) trivial (by simp (disch := omega) only [eq_self, not_true_eq_false, not_false_eq_true, upI_same, upL_same, upI_ne, upL_ne, iI_ixN, zI_mk, zL_mk, zP_mk, zK_mk, zN_mk, zwI_up, zwL_up, zg_some, Nat.reduceMod, Nat.reduceDiv, zcn_I, iI_add, iI_sub, iI_mul, iI_neg, iI_lt, iI_le, iI_eq, iI_lt0, iI_le0, iI_gt0, iI_ge0, iI_eq0] <;> omega) ?_
          refine zW.gr [] rfl rfl rfl (by omega) trivial trivial ?_; rw [zcn_I]
          exact mP_t hQ (c := 1) (v := 0) (if_neg (fun q => hb (dc_t.mp q))) (mf_scr h th2_scr) (mgr_o (scr_o th2_scr)) (upI_same _ _ _ _) 0
        · have hb := Classical.byContradiction hb
          rw [if_pos (dc_t.mpr hb)] at hQ
          obtain ⟨b1, b2, b3, b4⟩ := hb
          refine zW.gbf [] rfl rfl rfl (by omega) trivial (by simp (disch := omega) only [eq_self, not_true_eq_false, not_false_eq_true, upI_same, upL_same, upI_ne, upL_ne, iI_ixN, zI_mk, zL_mk, zP_mk, zK_mk, zN_mk, zwI_up, zwL_up, zg_some, Nat.reduceMod, Nat.reduceDiv, zcn_I, iI_add, iI_sub, iI_mul, iI_neg, iI_lt, iI_le, iI_eq, iI_lt0, iI_le0, iI_gt0, iI_ge0, iI_eq0] <;> omega) ?_
          have G : ∀ u, tru (¬ pzR (tPz T i) < 4) u → zW 168 d 0 0 118 [some (zr (some y)), some (zi (iI (i : Int))), some (zi (iI s)), some (zi q), some (zi x), none, none, none] [zi u, zr (some y)] (upI (upI I y 41 (iI 0)) y 41 (iI 0), L, R) Q := fun u hu => by
            refine zW.gz [] rfl rfl rfl (by omega) trivial ⟨_, rfl, k0⟩ rfl rfl (by decide +kernel) (by decide +kernel) ?_
            refine mThr_ok (k := 3) (by omega) k0 hu (zcn_I _) (fun hb => ?_) (fun hb => ?_)
            · refine zW.gbf [] rfl rfl rfl (by omega) trivial (by simp (disch := omega) only [eq_self, not_true_eq_false, not_false_eq_true, upI_same, upL_same, upI_ne, upL_ne, iI_ixN, zI_mk, zL_mk, zP_mk, zK_mk, zN_mk, zwI_up, zwL_up, zg_some, Nat.reduceMod, Nat.reduceDiv, zcn_I, iI_add, iI_sub, iI_mul, iI_neg, iI_lt, iI_le, iI_eq, iI_lt0, iI_le0, iI_gt0, iI_ge0, iI_eq0] <;> omega) ?_
              refine zW.gr [] rfl rfl rfl (by omega) trivial trivial ?_; rw [zcn_I]
              exact mP_t hQ (c := 2) (v := 0) (if_pos hb) (mf_scr h (scr_tr th2_scr th_scr)) (mgr_o (scr_o (scr_tr th2_scr th_scr))) (upI_same _ _ _ _) 0
            · rw [if_neg hb] at hQ
              have hb3 : pzR (tPz T i) < 4 := Classical.byContradiction hb
              obtain ⟨s, rfl⟩ : ∃ k : Nat, s = k := ⟨s.toNat, by omega⟩
              rw [show ((s : Int)).toNat = s from rfl] at hQ
              refine zW.gbt [] rfl rfl rfl (by omega) trivial (by simp (disch := omega) only [eq_self, not_true_eq_false, not_false_eq_true, upI_same, upL_same, upI_ne, upL_ne, iI_ixN, zI_mk, zL_mk, zP_mk, zK_mk, zN_mk, zwI_up, zwL_up, zg_some, Nat.reduceMod, Nat.reduceDiv, zcn_I, iI_add, iI_sub, iI_mul, iI_neg, iI_lt, iI_le, iI_eq, iI_lt0, iI_le0, iI_gt0, iI_ge0, iI_eq0] <;> omega) ?_
              obtain ⟨J, hJ⟩ : ∃ J, upI (upI (upI I y 41 (iI 0)) y 41 (iI 0)) y 41 (iI 0) = J := ⟨_, rfl⟩
              have sJ : scr y I L J L := by rw [← hJ]; exact scr_tr th2_scr th_scr
              have mJ : mf y T (J, L, R) := mf_scr h sJ
              have tJ : J y 41 = iI 0 := by rw [← hJ]; exact upI_same _ _ _ _
              rw [hJ]
              obtain ⟨-, -, u1, u2, u3, u4, u5⟩ := m_pz mJ hi
              obtain ⟨⟨c1, c2⟩, -⟩ := m_own mJ
              obtain ⟨r, hr⟩ : ∃ r, pzR (tPz T i) = r := ⟨_, rfl⟩
              rw [hr] at u2 hb3
              have e2r : (2 : Int) * (r : Int) = ((2 * r : Nat) : Int) := by omega
              have e2s : ((2 * r : Nat) : Int) + 1 = ((2 * r + 1 : Nat) : Int) := by omega
              have p3 : R.1 y 3 = some (y + 4) := (hM.2.1 3 (by decide)).1; have k3 : R.2.1 (y + 4) = some (26, 4) := (hM.2.1 3 (by decide)).2; have q3 : R.1 (y + 4) (i) = some (y + 5 + 9 * i) := (hM.2.2.1 (i) (by omega)).1.trans (congrArg some (by omega)); have j3 : R.2.1 (y + 5 + 9 * i) = some (25, 8) := (congrArg R.2.1 (by omega)).trans (hM.2.2.1 (i) (by omega)).2.1; have r3 : R.1 (y + 5 + 9 * i) (2 * r) = some (y + 6 + 9 * i + 2 * r) := (congrFun (congrArg R.1 (show y + 5 + 9 * i = y + 4 + 1 + 9 * i by omega)) (2 * r)).trans ((((hM.2.2.1 (i) (by omega)).2.2 (2 * r) (by omega)).1).trans (congrArg some (by omega))); have s3 : R.2.1 (y + 6 + 9 * i + 2 * r) = some (20, 10) := (congrArg R.2.1 (by omega)).trans ((hM.2.2.1 (i) (by omega)).2.2 (2 * r) (by omega)).2
              have ra := r3
              have sa := s3
              have r3 : R.1 (y + 5 + 9 * i) ((2 * r + 1)) = some (y + 6 + 9 * i + (2 * r + 1)) := (congrFun (congrArg R.1 (show y + 5 + 9 * i = y + 4 + 1 + 9 * i by omega)) ((2 * r + 1))).trans ((((hM.2.2.1 (i) (by omega)).2.2 ((2 * r + 1)) (by omega)).1).trans (congrArg some (by omega))); have s3 : R.2.1 (y + 6 + 9 * i + (2 * r + 1)) = some (20, 10) := (congrArg R.2.1 (by omega)).trans ((hM.2.2.1 (i) (by omega)).2.2 ((2 * r + 1)) (by omega)).2
              refine zW.go [166] rfl (by omega) ?_ ?_
              · simp (disch := omega) only [true_or, or_true, eq_self, Option.some.injEq, Prod.mk.injEq, zall_0, zall_1, zall_2, zob_iff, zar_iff, zis_iff, zkIs_some, zkHas_some, iI_vp, z01_I, z01_bz, zch_I, true_and, and_true, or_false, false_or, and_self, upI_same, upL_same, upI_ne, upL_ne, iI_ixN, zI_mk, zL_mk, zP_mk, zK_mk, zN_mk, zwI_up, zwL_up, zg_some, Nat.reduceMod, Nat.reduceDiv, zcn_I, iI_add, iI_sub, iI_mul, iI_neg, iI_lt, iI_le, iI_eq, iI_lt0, iI_le0, iI_gt0, iI_ge0, iI_eq0, k0, p3, k3, q3, j3, p2, k2, u2, e2r, e2s]
                omega
              simp (disch := omega) only [upI_same, upL_same, upI_ne, upL_ne, iI_ixN, zI_mk, zL_mk, zP_mk, zK_mk, zN_mk, zwI_up, zwL_up, zg_some, Nat.reduceMod, Nat.reduceDiv, zcn_I, iI_add, iI_sub, iI_mul, iI_neg, iI_lt, iI_le, iI_eq, iI_lt0, iI_le0, iI_gt0, iI_ge0, iI_eq0, p3, q3, p2, u2, e2r, e2s, ra, r3]
              have ab : y + 6 + 9 * i + 2 * r ≠ y + 6 + 9 * i + (2 * r + 1) := by omega
              refine rng_id (by omega) sa s3 ab (fun I1 f1 f2 f3 => ?_) 10 0 (by omega) J _ (fun _ _ _ => rfl) (fun p q => absurd q (Nat.not_lt_zero p)) (fun p q => absurd q (Nat.not_lt_zero p)) rfl
              refine zW.go [196] rfl (by omega) trivial ?_
              refine rng_put (cnt := (tTy T).length) (pl := nth (tTy T)) (by omega) hM sa s3 ab (by omega) (by omega) (by omega) (by omega) h8 (by omega) h.1.1.2.1 ?_ (fun m hm => ?_) (fun I2 x6 v7 g1 g2 g3 => ?_) (tTy T).length 0 (by omega) I1 _ _ (fun _ _ _ => rfl) f2 f3 (zcn_I _)
              · rw [f1 _ (by omega) (by omega)]
                exact c1
              · rw [f1 _ (by omega) (by omega)]
                exact c2 m hm
              have hpl : ∀ u v, u < (tTy T).length → v < (tTy T).length → nth (tTy T) u = nth (tTy T) v → u = v := fun u v hu hv e => by
                rcases Nat.lt_trichotomy u v with q | q | q
                · exact absurd e (h.1.1.2.2 u v q hv)
                · exact q
                · exact absurd e.symm (h.1.1.2.2 v u q hu)
              have hs : s < (tTy T).length := by omega
              have o2 : ∀ a, a ≠ y + 6 + 9 * i + 2 * r → a ≠ y + 6 + 9 * i + (2 * r + 1) → I2 a = J a := fun a q1 q2 => (g1 a q1 q2).trans (f1 a q1 q2)
              have w2' : I2 (y + 3) i = iI (r : Int) := by rw [o2 _ (by omega) (by omega)]; exact u2
              refine zW.gz [] rfl rfl rfl (by omega) ?_ ⟨_, rfl, k0⟩ rfl rfl (by decide +kernel) (by decide +kernel) ?_
              · simp (disch := omega) only [true_or, or_true, eq_self, Option.some.injEq, Prod.mk.injEq, zall_0, zall_1, zall_2, zob_iff, zar_iff, zis_iff, zkIs_some, zkHas_some, iI_vp, z01_I, z01_bz, zch_I, true_and, and_true, or_false, false_or, and_self, upI_same, upL_same, upI_ne, upL_ne, iI_ixN, zI_mk, zL_mk, zP_mk, zK_mk, zN_mk, zwI_up, zwL_up, zg_some, Nat.reduceMod, Nat.reduceDiv, zcn_I, iI_add, iI_sub, iI_mul, iI_neg, iI_lt, iI_le, iI_eq, iI_lt0, iI_le0, iI_gt0, iI_ge0, iI_eq0, k0, p2, k2]
                omega
              simp (disch := omega) only [upI_same, upL_same, upI_ne, upL_ne, iI_ixN, zI_mk, zL_mk, zP_mk, zK_mk, zN_mk, zwI_up, zwL_up, zg_some, Nat.reduceMod, Nat.reduceDiv, zcn_I, iI_add, iI_sub, iI_mul, iI_neg, iI_lt, iI_le, iI_eq, iI_lt0, iI_le0, iI_gt0, iI_ge0, iI_eq0, p2, w2']
              have hz0 : zOK (pzN (tPz T i)) (pzR (tPz T i) + 1) (tnS (pzR (tPz T i)) (pzT (tPz T i)) (tyT T s)) (pzC (tPz T i)) (pzS (tPz T i)) := zOK_st (zOK_S (cnt := (tTy T).length) hz (by omega) (rgT_pm hpl hs b2) (by omega) h8 (rgT_cyc hpl hs)) hz.2.2.2.2.2.2.2.2
              have m0 : mf y (tRng0 T i (tyT T s)) (upI (upI (upI I2 y 32 (iI 0)) (y + 3) i (iI ((r : Int) + 1))) y 34 (iI (-1)), L, R) := by
                refine mf_ring mJ hi (by omega) hz0 (fun a q1 q2 q3 q4 => ?_) (fun k hk => ?_) ?_ (upI_same _ _ _ _) ?_ (fun k hk => ?_) (fun p hp => ?_) (fun p hp => ?_)
                · have : a ≠ y := fun e => q1 (Or.inl e)
                  rw [upI_row (by omega), upI_row (by omega), upI_row (by omega)]
                  exact o2 a (by omega) (by omega)
                · rw [upI_ne (by omega), upI_row (by omega), upI_ne (by omega), o2 _ (by omega) (by omega)]
                · rw [upI_ne (by omega), upI_row (by omega), upI_same]
                · rw [upI_row (by omega), upI_same, hr]
                  exact iI_cg (by omega)
                · rw [upI_row (by omega), upI_ne (by omega), upI_row (by omega), o2 _ (by omega) (by omega)]
                · rw [upI_row (by omega), upI_row (by omega), upI_row (by omega), hr]
                  exact g2 p hp
                · rw [upI_row (by omega), upI_row (by omega), upI_row (by omega), hr]
                  have := g3 p hp
                  rw [rgi_vi hpl hs h.1.1.2.1 p] at this
                  exact this
              refine first_ok (by omega) m0 hi rfl (fun I3 k1 k2' k3' => ?_)
              rw [tRng0_f] at k1
              obtain ⟨-, -, -, x2, -⟩ := m_pz k1 hi
              have er : pzR (tPz (tRing T i s) i) = pzR (tPz T i) + 1 := by
                show pzR (if i = i then pzRg (tPz T i) (tyT T s) else tPz T i) = _
                rw [if_pos rfl]
                rfl
              rw [er] at x2
              refine zW.gr [] rfl rfl rfl (by omega) (by simp (disch := omega) only [true_or, or_true, eq_self, Option.some.injEq, Prod.mk.injEq, zall_0, zall_1, zall_2, zob_iff, zar_iff, zis_iff, zkIs_some, zkHas_some, iI_vp, z01_I, z01_bz, zch_I, true_and, and_true, or_false, false_or, and_self, upI_same, upL_same, upI_ne, upL_ne, iI_ixN, zI_mk, zL_mk, zP_mk, zK_mk, zN_mk, zwI_up, zwL_up, zg_some, Nat.reduceMod, Nat.reduceDiv, zcn_I, iI_add, iI_sub, iI_mul, iI_neg, iI_lt, iI_le, iI_eq, iI_lt0, iI_le0, iI_gt0, iI_ge0, iI_eq0, k0, p2, k2] <;> omega) trivial ?_
              simp (disch := omega) only [upI_same, upL_same, upI_ne, upL_ne, iI_ixN, zI_mk, zL_mk, zP_mk, zK_mk, zN_mk, zwI_up, zwL_up, zg_some, Nat.reduceMod, Nat.reduceDiv, p2, x2]
              refine mP_0 hQ rfl k1 (mgr_tr (mgr_o (scr_o sJ)) (mgr_o (mfo_tr (mfo_of fun a q => ?_) k2'))) ?_
              · rw [upI_row (by omega), upI_row (by omega), upI_row (by omega)]
                exact o2 a (by omega) (by omega)
              · show I3 y 41 = iI 0
                rw [k3', upI_ne (by omega), upI_row (by omega), upI_ne (by omega), o2 _ (by omega) (by omega)]
                exact tJ
          refine zW.gb [] rfl rfl rfl (by omega) (by simp (disch := omega) only [true_or, or_true, eq_self, Option.some.injEq, Prod.mk.injEq, zall_0, zall_1, zall_2, zob_iff, zar_iff, zis_iff, zkIs_some, zkHas_some, iI_vp, z01_I, z01_bz, zch_I, true_and, and_true, or_false, false_or, and_self, upI_same, upL_same, upI_ne, upL_ne, iI_ixN, zI_mk, zL_mk, zP_mk, zK_mk, zN_mk, zwI_up, zwL_up, zg_some, Nat.reduceMod, Nat.reduceDiv, zcn_I, iI_add, iI_sub, iI_mul, iI_neg, iI_lt, iI_le, iI_eq, iI_lt0, iI_le0, iI_gt0, iI_ge0, iI_eq0, k0, p2, k2] <;> omega) (fun h' => ?_) (fun h' => ?_) <;> simp (disch := omega) only [zcn_I, iI_add, iI_sub, iI_mul, iI_neg, iI_lt, iI_le, iI_eq, iI_lt0, iI_le0, iI_gt0, iI_ge0, iI_eq0, upI_same, upL_same, upI_ne, upL_ne, iI_ixN, zI_mk, zL_mk, zP_mk, zK_mk, zN_mk, zwI_up, zwL_up, zg_some, Nat.reduceMod, Nat.reduceDiv, p2, w2] at h'
          · exact zW.go [118] rfl (by omega) trivial (G _ (tru_f (by omega)))
          · exact zW.go [118] rfl (by omega) trivial (G _ (tru_t (by omega)))
      rcases hq with ⟨g, rfl⟩ | ⟨g, rfl⟩
      · refine zW.gbt [] rfl rfl rfl (by omega) trivial (by simp (disch := omega) only [eq_self, not_true_eq_false, not_false_eq_true, upI_same, upL_same, upI_ne, upL_ne, iI_ixN, zI_mk, zL_mk, zP_mk, zK_mk, zN_mk, zwI_up, zwL_up, zg_some, Nat.reduceMod, Nat.reduceDiv, zcn_I, iI_add, iI_sub, iI_mul, iI_neg, iI_lt, iI_le, iI_eq, iI_lt0, iI_le0, iI_gt0, iI_ge0, iI_eq0] <;> omega) ?_
        exact zW.go [95] rfl (by omega) trivial (F _ (tru_f (fun n => n ⟨g.1.1, g.2, g.1.2.1, by have := g.1.2.2; omega⟩)))
      · refine zW.gbf [] rfl rfl rfl (by omega) trivial (by simp (disch := omega) only [eq_self, not_true_eq_false, not_false_eq_true, upI_same, upL_same, upI_ne, upL_ne, iI_ixN, zI_mk, zL_mk, zP_mk, zK_mk, zN_mk, zwI_up, zwL_up, zg_some, Nat.reduceMod, Nat.reduceDiv, zcn_I, iI_add, iI_sub, iI_mul, iI_neg, iI_lt, iI_le, iI_eq, iI_lt0, iI_le0, iI_gt0, iI_ge0, iI_eq0] <;> omega) ?_
        exact zW.go [95] rfl (by omega) trivial (F _ (tru_t (fun n => g ⟨⟨n.1, n.2.2.1, by have := n.2.2.2; omega⟩, n.2.1⟩)))
    refine zW.gb [] rfl rfl rfl (by omega) (by simp (disch := omega) only [true_or, or_true, eq_self, Option.some.injEq, Prod.mk.injEq, zall_0, zall_1, zall_2, zob_iff, zar_iff, zis_iff, zkIs_some, zkHas_some, iI_vp, z01_I, z01_bz, zch_I, true_and, and_true, or_false, false_or, and_self, upI_same, upL_same, upI_ne, upL_ne, iI_ixN, zI_mk, zL_mk, zP_mk, zK_mk, zN_mk, zwI_up, zwL_up, zg_some, Nat.reduceMod, Nat.reduceDiv, zcn_I, iI_add, iI_sub, iI_mul, iI_neg, iI_lt, iI_le, iI_eq, iI_lt0, iI_le0, iI_gt0, iI_ge0, iI_eq0, k0] <;> omega) (fun h' => ?_) (fun h' => ?_) <;> simp (disch := omega) only [zcn_I, iI_add, iI_sub, iI_mul, iI_neg, iI_lt, iI_le, iI_eq, iI_lt0, iI_le0, iI_gt0, iI_ge0, iI_eq0, upI_same, upL_same, upI_ne, upL_ne, iI_ixN, zI_mk, zL_mk, zP_mk, zK_mk, zN_mk, zwI_up, zwL_up, zg_some, Nat.reduceMod, Nat.reduceDiv, a1] at h'
    · exact zW.go [42] rfl (by omega) trivial (X _ (tru_f (fun q => by have := q.1; omega)))
    · refine zW.gz [] rfl rfl rfl (by omega) (by simp (disch := omega) only [true_or, or_true, eq_self, Option.some.injEq, Prod.mk.injEq, zall_0, zall_1, zall_2, zob_iff, zar_iff, zis_iff, zkIs_some, zkHas_some, iI_vp, z01_I, z01_bz, zch_I, true_and, and_true, or_false, false_or, and_self, upI_same, upL_same, upI_ne, upL_ne, iI_ixN, zI_mk, zL_mk, zP_mk, zK_mk, zN_mk, zwI_up, zwL_up, zg_some, Nat.reduceMod, Nat.reduceDiv, zcn_I, iI_add, iI_sub, iI_mul, iI_neg, iI_lt, iI_le, iI_eq, iI_lt0, iI_le0, iI_gt0, iI_ge0, iI_eq0, k0] <;> omega) trivial rfl rfl (by decide +kernel) (by decide +kernel) ?_
      simp (disch := omega) only [upI_same, upL_same, upI_ne, upL_ne, iI_ixN, zI_mk, zL_mk, zP_mk, zK_mk, zN_mk, zwI_up, zwL_up, zg_some, Nat.reduceMod, Nat.reduceDiv, a1]
      refine mIn_ok (lo := 1) (hi := ((tTy T).length : Int) - 1) (by omega) rfl (zcn_I _) (by rw [zcn_I, iI_sub]) h2 ⟨by omega, by omega⟩ ⟨by omega, by omega⟩ (fun q hq => ?_)
      rcases hq with ⟨g, rfl⟩ | ⟨g, rfl⟩
      · refine zW.gbf [] rfl rfl rfl (by omega) trivial (by simp (disch := omega) only [eq_self, not_true_eq_false, not_false_eq_true, upI_same, upL_same, upI_ne, upL_ne, iI_ixN, zI_mk, zL_mk, zP_mk, zK_mk, zN_mk, zwI_up, zwL_up, zg_some, Nat.reduceMod, Nat.reduceDiv, zcn_I, iI_add, iI_sub, iI_mul, iI_neg, iI_lt, iI_le, iI_eq, iI_lt0, iI_le0, iI_gt0, iI_ge0, iI_eq0] <;> omega) ?_
        exact zW.go [42] rfl (by omega) trivial (X _ (tru_t ⟨by omega, g⟩))
      · refine zW.gbt [] rfl rfl rfl (by omega) trivial (by simp (disch := omega) only [eq_self, not_true_eq_false, not_false_eq_true, upI_same, upL_same, upI_ne, upL_ne, iI_ixN, zI_mk, zL_mk, zP_mk, zK_mk, zN_mk, zwI_up, zwL_up, zg_some, Nat.reduceMod, Nat.reduceDiv, zcn_I, iI_add, iI_sub, iI_mul, iI_neg, iI_lt, iI_le, iI_eq, iI_lt0, iI_le0, iI_gt0, iI_ge0, iI_eq0] <;> omega) ?_
        exact zW.go [42] rfl (by omega) trivial (X _ (tru_f (fun q => g q.2)))
end MRNG
