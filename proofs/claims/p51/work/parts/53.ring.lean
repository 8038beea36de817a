/-! A ring is added. -/
def rgk (cnt step : Nat) (pl : Nat → Nat) : Nat → Nat → Nat
  | 0 => fun p => p
  | k + 1 => fu (rgk cnt step pl k) (pl ((k + step) % cnt)) (pl k)
theorem mod_inj {cnt step i j : Nat} (hi : i < cnt) (hj : j < cnt) (h : (i + step) % cnt = (j + step) % cnt) : i = j := by
  have h1 := Nat.div_add_mod (i + step) cnt
  have h2 := Nat.div_add_mod (j + step) cnt
  rw [h] at h1
  rcases Nat.lt_trichotomy ((i + step) / cnt) ((j + step) / cnt) with c | c | c
  · have := Nat.mul_le_mul_left cnt (show (i + step) / cnt + 1 ≤ (j + step) / cnt by omega)
    rw [Nat.mul_succ] at this
    omega
  · rw [c] at h1
    omega
  · have := Nat.mul_le_mul_left cnt (show (j + step) / cnt + 1 ≤ (i + step) / cnt by omega)
    rw [Nat.mul_succ] at this
    omega
theorem rgk_at {cnt step : Nat} {pl : Nat → Nat} (hpl : ∀ i j, i < cnt → j < cnt → pl i = pl j → i = j) : ∀ k, k ≤ cnt → (∀ i, i < k → rgk cnt step pl k (pl ((i + step) % cnt)) = pl i) ∧ ∀ p, (∀ i, i < k → p ≠ pl ((i + step) % cnt)) → rgk cnt step pl k p = p
  | 0, _ => ⟨fun i h => absurd h (Nat.not_lt_zero i), fun _ _ => rfl⟩
  | k + 1, hk => by
    obtain ⟨h1, h2⟩ := rgk_at (step := step) hpl k (by omega)
    refine ⟨fun i hi => ?_, fun p hp => ?_⟩
    · show fu (rgk cnt step pl k) (pl ((k + step) % cnt)) (pl k) (pl ((i + step) % cnt)) = pl i
      unfold fu
      by_cases c : i = k
      · rw [c, if_pos rfl]
      · rw [if_neg fun q => c (mod_inj (by omega) (by omega) (hpl _ _ (Nat.mod_lt _ (by omega)) (Nat.mod_lt _ (by omega)) q))]
        exact h1 i (by omega)
    · show fu (rgk cnt step pl k) (pl ((k + step) % cnt)) (pl k) p = p
      unfold fu
      rw [if_neg (hp k (by omega))]
      exact h2 p fun i hi => hp i (by omega)
/-- a ring's turn -/
def rgT (cnt step : Nat) (pl : Nat → Nat) : Nat → Nat := rgk cnt step pl cnt
theorem rgT_pl {cnt step j : Nat} {pl : Nat → Nat} (hpl : ∀ i j, i < cnt → j < cnt → pl i = pl j → i = j) (hs : step < cnt) (hj : j < cnt) : rgT cnt step pl (pl j) = pl ((j + (cnt - step)) % cnt) := by
  have h1 := (rgk_at (step := step) hpl cnt (Nat.le_refl _)).1 ((j + (cnt - step)) % cnt) (Nat.mod_lt _ (by omega))
  have e : ((j + (cnt - step)) % cnt + step) % cnt = j := by
    rw [Nat.mod_add_mod, show j + (cnt - step) + step = j + cnt by omega, Nat.add_mod_right, Nat.mod_eq_of_lt hj]
  rw [e] at h1
  exact h1
theorem rgT_o {cnt step p : Nat} {pl : Nat → Nat} (hpl : ∀ i j, i < cnt → j < cnt → pl i = pl j → i = j) (hc : 0 < cnt) (hp : ∀ i, i < cnt → p ≠ pl i) : rgT cnt step pl p = p := (rgk_at (step := step) hpl cnt (Nat.le_refl _)).2 p fun i _ => hp _ (Nat.mod_lt _ hc)
theorem rgT_it {cnt step j : Nat} {pl : Nat → Nat} (hpl : ∀ i j, i < cnt → j < cnt → pl i = pl j → i = j) (hs : step < cnt) (hj : j < cnt) : ∀ k, itf (rgT cnt step pl) k (pl j) = pl ((j + k * (cnt - step)) % cnt)
  | 0 => by
    rw [Nat.zero_mul, Nat.add_zero, Nat.mod_eq_of_lt hj]
    rfl
  | k + 1 => by
    rw [itf_s, rgT_it hpl hs hj k, rgT_pl hpl hs (Nat.mod_lt _ (by omega)), Nat.mod_add_mod, Nat.succ_mul, Nat.add_assoc]
theorem rgT_cyc {cnt step : Nat} {pl : Nat → Nat} (hpl : ∀ i j, i < cnt → j < cnt → pl i = pl j → i = j) (hs : step < cnt) : itf (rgT cnt step pl) cnt = fun p => p := by
  funext p
  by_cases h : ∃ j, j < cnt ∧ p = pl j
  · obtain ⟨j, hj, rfl⟩ := h
    rw [rgT_it hpl hs hj, Nat.mul_comm, Nat.add_mul_mod_self_right, Nat.mod_eq_of_lt hj]
  · have h1 : rgT cnt step pl p = p := rgT_o hpl (by omega) fun i hi q => h ⟨i, hi, q⟩
    have h2 := itf_mul (c := 1) (f := rgT cnt step pl) (p := p) h1 cnt
    rwa [Nat.one_mul] at h2
theorem rgT_pm {cnt step n : Nat} {pl : Nat → Nat} (hpl : ∀ i j, i < cnt → j < cnt → pl i = pl j → i = j) (hs : step < cnt) (hn : ∀ i, i < cnt → pl i < n) : pm n (rgT cnt step pl) := by
  refine ⟨fun p hp => ?_, fun p q _ _ h => ?_, fun p hp => rgT_o hpl (by omega) fun i hi q => by have := hn i hi; omega⟩
  · by_cases h : ∃ j, j < cnt ∧ p = pl j
    · obtain ⟨j, hj, rfl⟩ := h
      rw [rgT_pl hpl hs hj]
      exact hn _ (Nat.mod_lt _ (by omega))
    · rw [rgT_o hpl (by omega) fun i hi q => h ⟨i, hi, q⟩]
      exact hp
  · have e : cnt = (cnt - 1) + 1 := by omega
    have h1 := congrFun (rgT_cyc hpl hs) p
    have h2 := congrFun (rgT_cyc hpl hs) q
    rw [e] at h1 h2
    have h3 : itf (rgT (cnt - 1 + 1) step pl) (cnt - 1) (rgT (cnt - 1 + 1) step pl p) = p := h1
    have h4 : itf (rgT (cnt - 1 + 1) step pl) (cnt - 1) (rgT (cnt - 1 + 1) step pl q) = q := h2
    rw [← e] at h3 h4
    rw [h] at h3
    exact h3.symm.trans h4
theorem vi_it {n : Nat} {f : Nat → Nat} (hf : pm n f) : ∀ k p, itf (vi n f) k (itf f k p) = p
  | 0, p => rfl
  | k + 1, p => by
    show itf (vi n f) k (vi n f (itf f (k + 1) p)) = p
    rw [itf_s f, vi_l hf]
    exact vi_it hf k p
/-- the turns with a new ring's -/
noncomputable def tnS (r : Nat) (tn : Nat → Nat → Nat) (T : Nat → Nat) (a : Nat) : Nat → Nat := if a = 2 * r then T else if a = 2 * r + 1 then vi 10 T else tn a
theorem zA_S (r : Nat) (tn : Nat → Nat → Nat) (T : Nat → Nat) : (fun h => zA r tn h ∨ h = T) = zA (r + 1) (tnS r tn T) := by
  funext h
  refine propext ⟨?_, ?_⟩
  · rintro (⟨i, hi, rfl⟩ | rfl)
    · exact ⟨i, by omega, by unfold tnS; rw [if_neg (by omega), if_neg (by omega)]⟩
    · exact ⟨r, by omega, by unfold tnS; rw [if_pos rfl]⟩
  · rintro ⟨i, hi, rfl⟩
    by_cases c : i = r
    · refine Or.inr ?_
      unfold tnS
      rw [if_pos (by omega)]
    · refine Or.inl ⟨i, by omega, ?_⟩
      unfold tnS
      rw [if_neg (by omega), if_neg (by omega)]
theorem zOK_S {n r cnt : Nat} {tn : Nat → Nat → Nat} {col st T : Nat → Nat} (hz : zOK n r tn col st) (hr : r < 4) (hT : pm n T) (hc1 : 1 ≤ cnt) (hc8 : cnt ≤ 8) (hc : itf T cnt = fun p => p) : zOK n (r + 1) (tnS r tn T) col (fun p => p) := by
  obtain ⟨z1, z2, z3, z4, z5, z6, z7, z8, z9⟩ := hz
  have hT10 := pm_up hT z2
  refine ⟨z1, z2, by omega, fun a ha => ?_, fun i hi => ?_, fun a ha => ?_, z7, z8, pm_id n⟩
  · unfold tnS
    split
    · exact hT
    · split
      · rw [vi_up hT z2]
        exact vi_pm hT
      · exact z4 a (by omega)
  · unfold tnS
    by_cases c : i = r
    · rw [if_neg (by omega), if_pos (by omega), if_pos (by omega)]
    · rw [if_neg (by omega), if_neg (by omega), if_neg (by omega), if_neg (by omega)]
      exact z5 i (by omega)
  · unfold tnS
    split
    · exact ⟨cnt, hc1, hc8, hc⟩
    · split
      · refine ⟨cnt, hc1, hc8, ?_⟩
        funext p
        have := vi_it hT10 cnt p
        rwa [hc] at this
      · exact z6 a (by omega)
section RING
variable {d b n r : Nat} {tn : Nat → Nat → Nat} {col st : Nat → Nat} {L : Nat → Nat → Int64} {R : zRt} {Q : zO → zM → Prop}
theorem add_lp {I : Nat → Nat → Int32} {ta cnt step : Nat} {pl : Nat → Nat} (hd : 2 ≤ d) (hK : R.2.1 ta = some (20, 8)) (hT : ∀ i, i < cnt → I ta i = iI (pl i : Int)) (hc : cnt ≤ 8) (hc2 : 2 ≤ cnt) (hs : step < cnt) (hpl : ∀ i, i < cnt → pl i < 10)
    (hQ : ∀ v, zW 25 d 0 0 64 [some (zr (some b)), some (zr (some ta)), some (zi (iI (cnt : Int))), some (zi (iI (step : Int))), some (zl (Rw (rgT cnt step pl))), none, v] [] (I, L, R) Q) :
    ∀ m i, i + m = cnt → ∀ (o : Int64) (x : Int32), o = Rw (rgk cnt step pl i) → nb (rgk cnt step pl i) → x = iI (i : Int) → zW 25 d 0 0 33 [some (zr (some b)), some (zr (some ta)), some (zi (iI (cnt : Int))), some (zi (iI (step : Int))), some (zl o), none, some (zi x)] [] (I, L, R) Q
  | 0, i, hi, o, x, e1, hn, e2 => by
    subst e1; subst e2
    obtain rfl : i = cnt := by omega
    refine zW.gbt [] rfl rfl rfl (by omega) trivial ?_ (hQ _)
    exact (by simp (disch := omega) only [eq_self, not_true_eq_false, not_false_eq_true, upI_same, upL_same, upI_ne, upL_ne, iI_ixN, zI_mk, zL_mk, zP_mk, zK_mk, zN_mk, zwI_up, zwL_up, zg_some, Nat.reduceMod, Nat.reduceDiv, zcn_I, iI_add, iI_sub, iI_mul, iI_neg, iI_lt, iI_le, iI_eq, iI_lt0, iI_le0, iI_gt0, iI_ge0, iI_eq0] <;> omega)
  | m + 1, i, hi, o, x, e1, hn, e2 => by
    subst e1; subst e2
    have hme : ((i : Int) + (step : Int)) % (cnt : Int) = (((i + step) % cnt : Nat) : Int) := by
      rw [Int.natCast_emod, Int.natCast_add]
    have hml := Nat.mod_lt (i + step) (show 0 < cnt by omega)
    have t1 := hT _ hml
    have t2 := hT i (by omega)
    have q1 := hpl _ hml
    have q2 := hpl i (by omega)
    refine zW.gbf [] rfl rfl rfl (by omega) trivial ?_ (zW.gz [] rfl rfl rfl hd ?_ trivial rfl rfl (Nat.le_refl _) (Nat.le_refl _) ?_)
    · exact (by simp (disch := omega) only [eq_self, not_true_eq_false, not_false_eq_true, upI_same, upL_same, upI_ne, upL_ne, iI_ixN, zI_mk, zL_mk, zP_mk, zK_mk, zN_mk, zwI_up, zwL_up, zg_some, Nat.reduceMod, Nat.reduceDiv, zcn_I, iI_add, iI_sub, iI_mul, iI_neg, iI_lt, iI_le, iI_eq, iI_lt0, iI_le0, iI_gt0, iI_ge0, iI_eq0] <;> omega)
    · refine ⟨?_, ?_, ?_⟩
      · exact (by simp (disch := omega) only [true_or, or_true, eq_self, Option.some.injEq, Prod.mk.injEq, zall_0, zall_1, zall_2, zob_iff, zar_iff, zis_iff, zkIs_some, zkHas_some, iI_vp, z01_I, z01_bz, zch_I, true_and, and_true, or_false, false_or, and_self, upI_same, upL_same, upI_ne, upL_ne, iI_ixN, zI_mk, zL_mk, zP_mk, zK_mk, zN_mk, zwI_up, zwL_up, zg_some, Nat.reduceMod, Nat.reduceDiv, zcn_I, iI_add, iI_sub, iI_mul, iI_neg, iI_lt, iI_le, iI_eq, iI_lt0, iI_le0, iI_gt0, iI_ge0, iI_eq0, hK] <;> omega)
      · simp (disch := omega) only [iI_add, iI_mod, hme]
        exact (by simp (disch := omega) only [true_or, or_true, eq_self, Option.some.injEq, Prod.mk.injEq, zall_0, zall_1, zall_2, zob_iff, zar_iff, zis_iff, zkIs_some, zkHas_some, iI_vp, z01_I, z01_bz, zch_I, true_and, and_true, or_false, false_or, and_self, upI_same, upL_same, upI_ne, upL_ne, iI_ixN, zI_mk, zL_mk, zP_mk, zK_mk, zN_mk, zwI_up, zwL_up, zg_some, Nat.reduceMod, Nat.reduceDiv, zcn_I, iI_add, iI_sub, iI_mul, iI_neg, iI_lt, iI_le, iI_eq, iI_lt0, iI_le0, iI_gt0, iI_ge0, iI_eq0, hK] <;> omega)
      · rw [iI_eq0 (by omega) (by omega)]
        show ¬ ((cnt : Int) = 0)
        omega
    · simp (disch := omega) only [upI_same, upL_same, upI_ne, upL_ne, iI_ixN, zI_mk, zL_mk, zP_mk, zK_mk, zN_mk, zwI_up, zwL_up, zg_some, Nat.reduceMod, Nat.reduceDiv, iI_add, iI_mod, hme, t1, t2]
      refine with_ok (f := rgk cnt step pl i) (p := pl ((i + step) % cnt)) (v := pl i) (by omega) hn q1 (by omega) rfl rfl rfl ?_
      refine zW.go [33] rfl (by omega) trivial ?_
      refine add_lp hd hK hT hc hc2 hs hpl hQ m (i + 1) (by omega) _ _ rfl (fu_nb hn (by omega)) ?_
      exact (by simp (disch := omega) only [eq_self, not_true_eq_false, not_false_eq_true, upI_same, upL_same, upI_ne, upL_ne, iI_ixN, zI_mk, zL_mk, zP_mk, zK_mk, zN_mk, zwI_up, zwL_up, zg_some, Nat.reduceMod, Nat.reduceDiv, zcn_I, iI_add, iI_sub, iI_mul, iI_neg, iI_lt, iI_le, iI_eq, iI_lt0, iI_le0, iI_gt0, iI_ge0, iI_eq0] <;> omega)
theorem addRing_ok {I : Nat → Nat → Int32} {ta cnt step : Nat} {pl : Nat → Nat} {x y : Int32} (hd : 8 ≤ d) (hL : ZL b R) (hz : zOK n r tn col st) (hR : zPR b I L n r tn col st) (hr : r < 4) (hta : ¬ (b ≤ ta ∧ ta < b + 24)) (hK : R.2.1 ta = some (20, 8)) (hT : ∀ i, i < cnt → I ta i = iI (pl i : Int)) (e1 : x = iI (cnt : Int)) (e2 : y = iI (step : Int)) (hc : cnt ≤ 8) (hc2 : 2 ≤ cnt) (hs1 : 1 ≤ step) (hs : step < cnt) (hpl : ∀ i, i < cnt → pl i < n) (hin : ∀ i j, i < cnt → j < cnt → pl i = pl j → i = j)
    (hQ : ∀ I' L', zfr b I L I' L' → zOK n (r + 1) (tnS r tn (rgT cnt step pl)) col (fun p => p) → zPR b I' L' n (r + 1) (tnS r tn (rgT cnt step pl)) col (fun p => p) → Q (.inl none) (I', L', R)) : zS 25 d [zr (some b), zr (some ta), zi x, zi y] (I, L, R) Q := by
  subst e1; subst e2
  have hL' := hL
  obtain ⟨k0, p1, p2, p3, k1, hC, hG⟩ := hL'
  have hR' := hR
  obtain ⟨r1, r2, r3, r4, r5, r6, dr, m, g1, g2, g3⟩ := hR'
  have hn10 := hz.2.1
  have hTp := rgT_pm hin hs hpl
  have hT10 := pm_up hTp hn10
  have hlen : nI (zlenOf ((I, L, R) : zM) (some ta)) = iI 8 := by
    rw [zlenOf_some (M := (I, L, R)) (t := 20) (n := 8) hK]
    decide
  have z1 : Int64.ofInt (zldL 3062) = iL 4886718345 := by decide +kernel
  refine zW.gbf [] rfl rfl rfl (by omega) trivial ?_ (zW.gbf [] rfl rfl rfl (by omega) ?_ ?_ (zW.gbf [] rfl rfl rfl (by omega) trivial ?_ (zW.gbt [] rfl rfl rfl (by omega) ?_ ?_ (zW.go [33] rfl (by omega) trivial ?_))))
  · exact (by simp (disch := omega) only [eq_self, not_true_eq_false, not_false_eq_true, upI_same, upL_same, upI_ne, upL_ne, iI_ixN, zI_mk, zL_mk, zP_mk, zK_mk, zN_mk, zwI_up, zwL_up, zg_some, Nat.reduceMod, Nat.reduceDiv, zcn_I, iI_add, iI_sub, iI_mul, iI_neg, iI_lt, iI_le, iI_eq, iI_lt0, iI_le0, iI_gt0, iI_ge0, iI_eq0] <;> omega)
  · exact ⟨0, by decide, ⟨ta, 8, rfl, hK⟩⟩
  · rw [hlen]
    exact (by simp (disch := omega) only [eq_self, not_true_eq_false, not_false_eq_true, upI_same, upL_same, upI_ne, upL_ne, iI_ixN, zI_mk, zL_mk, zP_mk, zK_mk, zN_mk, zwI_up, zwL_up, zg_some, Nat.reduceMod, Nat.reduceDiv, zcn_I, iI_add, iI_sub, iI_mul, iI_neg, iI_lt, iI_le, iI_eq, iI_lt0, iI_le0, iI_gt0, iI_ge0, iI_eq0] <;> omega)
  · exact (by simp (disch := omega) only [eq_self, not_true_eq_false, not_false_eq_true, upI_same, upL_same, upI_ne, upL_ne, iI_ixN, zI_mk, zL_mk, zP_mk, zK_mk, zN_mk, zwI_up, zwL_up, zg_some, Nat.reduceMod, Nat.reduceDiv, zcn_I, iI_add, iI_sub, iI_mul, iI_neg, iI_lt, iI_le, iI_eq, iI_lt0, iI_le0, iI_gt0, iI_ge0, iI_eq0] <;> omega)
  · exact (by simp (disch := omega) only [true_or, or_true, eq_self, Option.some.injEq, Prod.mk.injEq, zall_0, zall_1, zall_2, zob_iff, zar_iff, zis_iff, zkIs_some, zkHas_some, iI_vp, z01_I, z01_bz, zch_I, true_and, and_true, or_false, false_or, and_self, upI_same, upL_same, upI_ne, upL_ne, iI_ixN, zI_mk, zL_mk, zP_mk, zK_mk, zN_mk, zwI_up, zwL_up, zg_some, Nat.reduceMod, Nat.reduceDiv, zcn_I, iI_add, iI_sub, iI_mul, iI_neg, iI_lt, iI_le, iI_eq, iI_lt0, iI_le0, iI_gt0, iI_ge0, iI_eq0, k0] <;> omega)
  · exact (by simp (disch := omega) only [eq_self, not_true_eq_false, not_false_eq_true, upI_same, upL_same, upI_ne, upL_ne, iI_ixN, zI_mk, zL_mk, zP_mk, zK_mk, zN_mk, zwI_up, zwL_up, zg_some, Nat.reduceMod, Nat.reduceDiv, zcn_I, iI_add, iI_sub, iI_mul, iI_neg, iI_lt, iI_le, iI_eq, iI_lt0, iI_le0, iI_gt0, iI_ge0, iI_eq0, r2] <;> omega)
  · rw [z1]
    refine add_lp (pl := pl) (by omega) hK hT hc hc2 hs (fun i hi => by have := hpl i hi; omega) (fun v => ?_) cnt 0 (by omega) _ _ Rw_id.symm (pm_nb (pm_id 10)) rfl
    have e2 : 2 * (r : Int) = ((2 * r : Nat) : Int) := by omega
    have e3 : ((2 * r : Nat) : Int) + 1 = ((2 * r + 1 : Nat) : Int) := by omega
    refine zW.gz [] rfl rfl rfl (by omega) ?_ trivial rfl rfl (Nat.le_refl _) (Nat.le_refl _) ?_
    · simp (disch := omega) only [upI_same, upL_same, upI_ne, upL_ne, iI_ixN, zI_mk, zL_mk, zP_mk, zK_mk, zN_mk, zwI_up, zwL_up, zg_some, Nat.reduceMod, Nat.reduceDiv, zcn_I, iI_add, iI_sub, iI_mul, iI_neg, iI_lt, iI_le, iI_eq, iI_lt0, iI_le0, iI_gt0, iI_ge0, iI_eq0, p1, r2, e2, e3]
      exact (by simp (disch := omega) only [true_or, or_true, eq_self, Option.some.injEq, Prod.mk.injEq, zall_0, zall_1, zall_2, zob_iff, zar_iff, zis_iff, zkIs_some, zkHas_some, iI_vp, z01_I, z01_bz, zch_I, true_and, and_true, or_false, false_or, and_self, upI_same, upL_same, upI_ne, upL_ne, iI_ixN, zI_mk, zL_mk, zP_mk, zK_mk, zN_mk, zwI_up, zwL_up, zg_some, Nat.reduceMod, Nat.reduceDiv, zcn_I, iI_add, iI_sub, iI_mul, iI_neg, iI_lt, iI_le, iI_eq, iI_lt0, iI_le0, iI_gt0, iI_ge0, iI_eq0, k0, p1, k1, r2, e2, e3] <;> omega)
    · simp (disch := omega) only [upI_same, upL_same, upI_ne, upL_ne, iI_ixN, zI_mk, zL_mk, zP_mk, zK_mk, zN_mk, zwI_up, zwL_up, zg_some, Nat.reduceMod, Nat.reduceDiv, zcn_I, iI_add, iI_sub, iI_mul, iI_neg, iI_lt, iI_le, iI_eq, iI_lt0, iI_le0, iI_gt0, iI_ge0, iI_eq0, p1, r2, e2, e3]
      refine back_ok (f := rgT cnt step pl) (by omega) hT10 rfl ?_
      refine zW.gz [] rfl rfl rfl (by omega) ?_ ?_ rfl rfl (Nat.le_refl _) (Nat.le_refl _) ?_
      · simp (disch := omega) only [upI_same, upL_same, upI_ne, upL_ne, iI_ixN, zI_mk, zL_mk, zP_mk, zK_mk, zN_mk, zwI_up, zwL_up, zg_some, Nat.reduceMod, Nat.reduceDiv, zcn_I, iI_add, iI_sub, iI_mul, iI_neg, iI_lt, iI_le, iI_eq, iI_lt0, iI_le0, iI_gt0, iI_ge0, iI_eq0, p1, r2, e2, e3]
        exact (by simp (disch := omega) only [true_or, or_true, eq_self, Option.some.injEq, Prod.mk.injEq, zall_0, zall_1, zall_2, zob_iff, zar_iff, zis_iff, zkIs_some, zkHas_some, iI_vp, z01_I, z01_bz, zch_I, true_and, and_true, or_false, false_or, and_self, upI_same, upL_same, upI_ne, upL_ne, iI_ixN, zI_mk, zL_mk, zP_mk, zK_mk, zN_mk, zwI_up, zwL_up, zg_some, Nat.reduceMod, Nat.reduceDiv, zcn_I, iI_add, iI_sub, iI_mul, iI_neg, iI_lt, iI_le, iI_eq, iI_lt0, iI_le0, iI_gt0, iI_ge0, iI_eq0, k0, p1, k1, r2, e2, e3] <;> omega)
      · simp (disch := omega) only [upI_same, upL_same, upI_ne, upL_ne, iI_ixN, zI_mk, zL_mk, zP_mk, zK_mk, zN_mk, zwI_up, zwL_up, zg_some, Nat.reduceMod, Nat.reduceDiv, zcn_I, iI_add, iI_sub, iI_mul, iI_neg, iI_lt, iI_le, iI_eq, iI_lt0, iI_le0, iI_gt0, iI_ge0, iI_eq0, p2]
        exact ⟨_, rfl, hC.1⟩
      · simp (disch := omega) only [upI_same, upL_same, upI_ne, upL_ne, iI_ixN, zI_mk, zL_mk, zP_mk, zK_mk, zN_mk, zwI_up, zwL_up, zg_some, Nat.reduceMod, Nat.reduceDiv, zcn_I, iI_add, iI_sub, iI_mul, iI_neg, iI_lt, iI_le, iI_eq, iI_lt0, iI_le0, iI_gt0, iI_ge0, iI_eq0, p1, p2, r2, e2, e3]
        have hch := chain_fr r6 (I' := upI I b 4 (iI ((r : Int) + 1))) (L' := upL (upL L (b + 1) (2 * r) (Rw (rgT cnt step pl))) (b + 1) (2 * r + 1) (Rw (vi 10 (rgT cnt step pl)))) (by rw [upI_row (by omega)]) (fun a _ _ => by rw [upL_row (by omega), upL_row (by omega)])
        refine grow_ok (g := rgT cnt step pl) (by omega) hC (zA_pm hz) hT10 hch rfl (fun I2 L2 f2 c2 => ?_)
        rw [zA_S] at c2
        obtain ⟨f21, f22⟩ := f2
        refine zW.gz [] rfl rfl rfl (by omega) ?_ ?_ rfl rfl (Nat.le_refl _) (Nat.le_refl _) ?_
        · exact (by simp (disch := omega) only [true_or, or_true, eq_self, Option.some.injEq, Prod.mk.injEq, zall_0, zall_1, zall_2, zob_iff, zar_iff, zis_iff, zkIs_some, zkHas_some, iI_vp, z01_I, z01_bz, zch_I, true_and, and_true, or_false, false_or, and_self, upI_same, upL_same, upI_ne, upL_ne, iI_ixN, zI_mk, zL_mk, zP_mk, zK_mk, zN_mk, zwI_up, zwL_up, zg_some, Nat.reduceMod, Nat.reduceDiv, zcn_I, iI_add, iI_sub, iI_mul, iI_neg, iI_lt, iI_le, iI_eq, iI_lt0, iI_le0, iI_gt0, iI_ge0, iI_eq0, k0] <;> omega)
        · simp (disch := omega) only [upI_same, upL_same, upI_ne, upL_ne, iI_ixN, zI_mk, zL_mk, zP_mk, zK_mk, zN_mk, zwI_up, zwL_up, zg_some, Nat.reduceMod, Nat.reduceDiv, zcn_I, iI_add, iI_sub, iI_mul, iI_neg, iI_lt, iI_le, iI_eq, iI_lt0, iI_le0, iI_gt0, iI_ge0, iI_eq0, p3]
          exact ⟨_, rfl, hG.1⟩
        · simp (disch := omega) only [upI_same, upL_same, upI_ne, upL_ne, iI_ixN, zI_mk, zL_mk, zP_mk, zK_mk, zN_mk, zwI_up, zwL_up, zg_some, Nat.reduceMod, Nat.reduceDiv, zcn_I, iI_add, iI_sub, iI_mul, iI_neg, iI_lt, iI_le, iI_eq, iI_lt0, iI_le0, iI_gt0, iI_ge0, iI_eq0, p3]
          refine forget_ok (by omega) hG ?_
          refine zW.gr [] rfl rfl rfl (by omega) ?_ trivial ?_
          · exact (by simp (disch := omega) only [true_or, or_true, eq_self, Option.some.injEq, Prod.mk.injEq, zall_0, zall_1, zall_2, zob_iff, zar_iff, zis_iff, zkIs_some, zkHas_some, iI_vp, z01_I, z01_bz, zch_I, true_and, and_true, or_false, false_or, and_self, upI_same, upL_same, upI_ne, upL_ne, iI_ixN, zI_mk, zL_mk, zP_mk, zK_mk, zN_mk, zwI_up, zwL_up, zg_some, Nat.reduceMod, Nat.reduceDiv, zcn_I, iI_add, iI_sub, iI_mul, iI_neg, iI_lt, iI_le, iI_eq, iI_lt0, iI_le0, iI_gt0, iI_ge0, iI_eq0, k0] <;> omega)
          · rw [z1]
            simp (disch := omega) only [upI_same, upL_same, upI_ne, upL_ne, iI_ixN, zI_mk, zL_mk, zP_mk, zK_mk, zN_mk, zwI_up, zwL_up, zg_some, Nat.reduceMod, Nat.reduceDiv, zcn_I, iI_add, iI_sub, iI_mul, iI_neg, iI_lt, iI_le, iI_eq, iI_lt0, iI_le0, iI_gt0, iI_ge0, iI_eq0]
            have hzS := zOK_S hz hr hTp (by omega) hc (rgT_cyc hin hs)
            refine hQ _ _ ⟨fun a q => ?_, fun a q => ?_⟩ hzS ⟨?_, ?_, ?_, ?_, fun a ha => ?_, ?_, false, fun _ => false, ?_, fun q => (by cases q), fun k hk => ⟨?_, fun q => (by cases q)⟩⟩
            · rw [upI_row (by omega), upI_row (by omega), upI_row (by omega), f21 a (by omega), upI_row (by omega)]
            · rw [upL_row (by omega), f22 a (by omega), upL_row (by omega), upL_row (by omega)]
            · rw [upI_row (by omega), upI_row (by omega), upI_row (by omega), f21 b (by omega), upI_ne (by omega)]
              exact r1
            · rw [upI_row (by omega), upI_row (by omega), upI_row (by omega), f21 b (by omega), upI_same]
              rfl
            · rw [upL_ne (by omega), f22 b (by omega), upL_row (by omega), upL_row (by omega)]
              exact r3
            · rw [upL_same, Rw_id]
            · rw [upL_row (by omega), f22 _ (by omega)]
              unfold tnS
              by_cases c1 : a = 2 * r
              · rw [if_pos c1, c1, upL_ne (by omega), upL_same]
              · rw [if_neg c1]
                by_cases c3 : a = 2 * r + 1
                · rw [if_pos c3, c3, upL_same]
                · rw [if_neg c3, upL_ne (by omega), upL_ne (by omega)]
                  exact r5 a (by omega)
            · exact chain_fr c2 (by rw [upI_row (by omega), upI_row (by omega), upI_row (by omega)]) (fun a _ _ => upL_row (by omega))
            · rw [upI_row (by omega), upI_row (by omega), upI_same]
              rfl
            · by_cases c : k = 1
              · rw [c, upI_same]
                rfl
              · rw [upI_ne (by omega), show k = 0 by omega, upI_same]
                rfl
end RING
