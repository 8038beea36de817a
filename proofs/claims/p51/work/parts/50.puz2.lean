/-! A puzzle of the class: painting, turning, swapping, drawing, measuring, counting. -/
def zDr (b : Nat) (I : Nat → Nat → Int32) (L : Nat → Nat → Int64) (r : Nat) (tn : Nat → Nat → Nat) : Prop := I (b + 7) 8 = iI 1 ∧ gN (b + 7) I (szG (zG r tn) 10) (2 * r) (nxG (zG r tn) tn) ∧ ∀ i, i < szG (zG r tn) 10 → L (b + 8) i = Rw (stG (zG r tn) i)
section PUZ2
variable {d b n r : Nat} {tn : Nat → Nat → Nat} {col st : Nat → Nat} {I : Nat → Nat → Int32} {L : Nat → Nat → Int64} {R : zRt} {Q : zO → zM → Prop}
theorem fu_nb {f : Nat → Nat} {p v : Nat} (hf : nb f) (hv : v < 16) : nb (fu f p v) := by
  intro q hq
  unfold fu
  split
  · exact hv
  · exact hf q hq
theorem paint_ok {p c : Nat} {x y : Int32} (hd : 2 ≤ d) (hL : ZL b R) (hz : zOK n r tn col st) (hR : zPR b I L n r tn col st) (e1 : x = iI (p : Int)) (e2 : y = iI (c : Int)) (hp : p < n) (hc : c < 10)
    (hQ : ∀ I' L', zfr b I L I' L' → zOK n r tn (fu col p c) st → zPR b I' L' n r tn (fu col p c) st → Q (.inl (some (zi (iI (col p : Int))))) (I', L', R)) : zS 26 d [zr (some b), zi x, zi y] (I, L, R) Q := by
  subst e1; subst e2
  obtain ⟨k0, p1, p2, p3, k1, hC, hG⟩ := hL
  have hR' := hR
  obtain ⟨r1, r2, r3, r4, r5, r6, dr, m, g1, g2, g3⟩ := hR'
  have hcn := zcol_nb hz
  have hn10 := hz.2.1
  refine zW.gz [] rfl rfl rfl hd ?_ trivial rfl rfl (Nat.le_refl _) (Nat.le_refl _) ?_
  · exact (by simp (disch := omega) only [true_or, or_true, eq_self, Option.some.injEq, Prod.mk.injEq, zall_0, zall_1, zall_2, zob_iff, zar_iff, zis_iff, zkIs_some, zkHas_some, iI_vp, z01_I, z01_bz, zch_I, true_and, and_true, or_false, false_or, and_self, upI_same, upL_same, upI_ne, upL_ne, iI_ixN, zI_mk, zL_mk, zP_mk, zK_mk, zN_mk, zwI_up, zwL_up, zg_some, Nat.reduceMod, Nat.reduceDiv, zcn_I, iI_add, iI_sub, iI_mul, iI_neg, iI_lt, iI_le, iI_eq, iI_lt0, iI_le0, iI_gt0, iI_ge0, iI_eq0, k0] <;> omega)
  · simp (disch := omega) only [upI_same, upL_same, upI_ne, upL_ne, iI_ixN, zI_mk, zL_mk, zP_mk, zK_mk, zN_mk, zwI_up, zwL_up, zg_some, Nat.reduceMod, Nat.reduceDiv, zcn_I, iI_add, iI_sub, iI_mul, iI_neg, iI_lt, iI_le, iI_eq, iI_lt0, iI_le0, iI_gt0, iI_ge0, iI_eq0, r3]
    refine at_ok (f := col) (p := p) (by omega) hcn (by omega) rfl rfl ?_
    refine zW.gz [] rfl rfl rfl hd ?_ trivial rfl rfl (Nat.le_refl _) (Nat.le_refl _) ?_
    · exact (by simp (disch := omega) only [true_or, or_true, eq_self, Option.some.injEq, Prod.mk.injEq, zall_0, zall_1, zall_2, zob_iff, zar_iff, zis_iff, zkIs_some, zkHas_some, iI_vp, z01_I, z01_bz, zch_I, true_and, and_true, or_false, false_or, and_self, upI_same, upL_same, upI_ne, upL_ne, iI_ixN, zI_mk, zL_mk, zP_mk, zK_mk, zN_mk, zwI_up, zwL_up, zg_some, Nat.reduceMod, Nat.reduceDiv, zcn_I, iI_add, iI_sub, iI_mul, iI_neg, iI_lt, iI_le, iI_eq, iI_lt0, iI_le0, iI_gt0, iI_ge0, iI_eq0, k0] <;> omega)
    · simp (disch := omega) only [upI_same, upL_same, upI_ne, upL_ne, iI_ixN, zI_mk, zL_mk, zP_mk, zK_mk, zN_mk, zwI_up, zwL_up, zg_some, Nat.reduceMod, Nat.reduceDiv, zcn_I, iI_add, iI_sub, iI_mul, iI_neg, iI_lt, iI_le, iI_eq, iI_lt0, iI_le0, iI_gt0, iI_ge0, iI_eq0, r3]
      refine with_ok (f := col) (p := p) (v := c) (by omega) hcn (by omega) (by omega) rfl rfl rfl ?_
      refine zW.gz [] rfl rfl rfl hd ?_ ?_ rfl rfl (Nat.le_refl _) (Nat.le_refl _) ?_
      · exact (by simp (disch := omega) only [true_or, or_true, eq_self, Option.some.injEq, Prod.mk.injEq, zall_0, zall_1, zall_2, zob_iff, zar_iff, zis_iff, zkIs_some, zkHas_some, iI_vp, z01_I, z01_bz, zch_I, true_and, and_true, or_false, false_or, and_self, upI_same, upL_same, upI_ne, upL_ne, iI_ixN, zI_mk, zL_mk, zP_mk, zK_mk, zN_mk, zwI_up, zwL_up, zg_some, Nat.reduceMod, Nat.reduceDiv, zcn_I, iI_add, iI_sub, iI_mul, iI_neg, iI_lt, iI_le, iI_eq, iI_lt0, iI_le0, iI_gt0, iI_ge0, iI_eq0, k0] <;> omega)
      · simp (disch := omega) only [upI_same, upL_same, upI_ne, upL_ne, iI_ixN, zI_mk, zL_mk, zP_mk, zK_mk, zN_mk, zwI_up, zwL_up, zg_some, Nat.reduceMod, Nat.reduceDiv, zcn_I, iI_add, iI_sub, iI_mul, iI_neg, iI_lt, iI_le, iI_eq, iI_lt0, iI_le0, iI_gt0, iI_ge0, iI_eq0, p3]
        exact ⟨_, rfl, hG.1⟩
      · simp (disch := omega) only [upI_same, upL_same, upI_ne, upL_ne, iI_ixN, zI_mk, zL_mk, zP_mk, zK_mk, zN_mk, zwI_up, zwL_up, zg_some, Nat.reduceMod, Nat.reduceDiv, zcn_I, iI_add, iI_sub, iI_mul, iI_neg, iI_lt, iI_le, iI_eq, iI_lt0, iI_le0, iI_gt0, iI_ge0, iI_eq0, p3]
        refine forgetD_ok (by omega) hG ?_
        refine zW.gr [] rfl rfl rfl (by omega) trivial trivial ?_
        refine hQ _ _ ⟨fun a q => ?_, fun a q => ?_⟩ ?_ ⟨?_, ?_, ?_, ?_, fun a ha => ?_, ?_, dr, fun _ => false, ?_, fun q => ?_, fun k hk => ⟨?_, fun q => by cases q⟩⟩
        · rw [upI_row (by omega), upI_row (by omega)]
        · rw [upL_row (by omega)]
        · obtain ⟨z1, z2, z3, z4, z5, z6, z7, z8, z9⟩ := hz
          refine ⟨z1, z2, z3, z4, z5, z6, fun q hq => ?_, fun q hq => ?_, z9⟩
          · unfold fu
            split
            · exact hc
            · exact z7 q hq
          · unfold fu
            rw [if_neg (by omega)]
            exact z8 q hq
        · rw [upI_row (by omega), upI_row (by omega)]
          exact r1
        · rw [upI_row (by omega), upI_row (by omega)]
          exact r2
        · rw [upL_same]
        · rw [upL_ne (by omega)]
          exact r4
        · rw [upL_row (by omega)]
          exact r5 a ha
        · exact chain_fr r6 (by rw [upI_row (by omega), upI_row (by omega)]) (fun a _ _ => upL_row (by omega))
        · rw [upI_row (by omega), upI_row (by omega)]
          exact g1
        · obtain ⟨⟨n1, n2, n3, n4, n5, n6⟩, n7⟩ := g2 q
          refine ⟨⟨n1, n2, ?_, ?_, fun a s ha hs => ?_, n6⟩, fun i hi => ?_⟩
          · rw [upI_row (by omega), upI_row (by omega)]
            exact n3
          · rw [upI_row (by omega), upI_row (by omega)]
            exact n4
          · rw [upI_row (by omega), upI_row (by omega)]
            exact n5 a s ha hs
          · rw [upL_row (by omega)]
            exact n7 i hi
        · by_cases c : k = 1
          · rw [c, upI_same]
            rfl
          · rw [upI_ne (by omega), show k = 0 by omega, upI_same]
            rfl
/-- a puzzle whose state alone has changed -/
theorem zPR_st {st' : Nat → Nat} (hR : zPR b I L n r tn col st) : zPR b I (upL L b 6 (Rw st')) n r tn col st' := by
  obtain ⟨r1, r2, r3, r4, r5, r6, dr, m, g1, g2, g3⟩ := hR
  refine ⟨r1, r2, by rw [upL_ne (by omega)]; exact r3, upL_same _ _ _ _, fun a ha => by rw [upL_row (by omega)]; exact r5 a ha, chain_fr r6 rfl (fun a _ _ => upL_row (by omega)), dr, m, g1, fun q => ⟨(g2 q).1, fun i hi => by rw [upL_row (by omega)]; exact (g2 q).2 i hi⟩, g3⟩
theorem zfr_st {o : Int64} : zfr b I L I (upL L b 6 o) := ⟨fun _ _ => rfl, fun a q => upL_row (by omega)⟩
theorem zOK_st {st' : Nat → Nat} (hz : zOK n r tn col st) (h : pm n st') : zOK n r tn col st' := by
  obtain ⟨z1, z2, z3, z4, z5, z6, z7, z8, z9⟩ := hz
  exact ⟨z1, z2, z3, z4, z5, z6, z7, z8, h⟩
theorem upL_up {L : Nat → Nat → Int64} {a k : Nat} {x y : Int64} : upL (upL L a k x) a k y = upL L a k y := by
  funext b j
  unfold upL
  split <;> rfl
theorem upL_id {L : Nat → Nat → Int64} {a k : Nat} {x : Int64} (h : L a k = x) : upL L a k x = L := by
  funext b j
  unfold upL
  split
  · rename_i q
    rw [q.1, q.2, h]
  · rfl
theorem turn_lp {a k : Nat} {x1 x2 : Int32} (hd : 3 ≤ d) (hL : ZL b R) (hz : zOK n r tn col st) (hR : zPR b I L n r tn col st) (ha : a < 2 * r) (hk : k ≤ 20)
    (hQ : Q (.inl (some (zi (iI (ct (fun p => !(st p == st (itf (tn a) k p))) 10 : Nat))))) (I, upL L b 6 (Rw (fun p => st (itf (tn a) k p))), R)) :
    ∀ m i, i + m = k → ∀ (y : Int32), y = iI (i : Int) → zW 27 d 0 0 47 [some (zr (some b)), some (zi x1), some (zi x2), some (zi (iI (a : Int))), some (zl (Rw st)), none, some (zi (iI (k : Int))), some (zi y)] [] (I, upL L b 6 (Rw (fun p => st (itf (tn a) i p))), R) Q
  | 0, i, hi, y, e => by
    subst e
    obtain rfl : i = k := by omega
    obtain ⟨k0, p1, p2, p3, k1, hC, hG⟩ := hL
    have hs := pm_comp (zst_pm hz) (itf_pm (ztn_pm hz ha) i)
    refine zW.gbt [] rfl rfl rfl (by omega) trivial ?_ (zW.gz [] rfl rfl rfl (by omega) ?_ trivial rfl rfl (Nat.le_refl _) (Nat.le_refl _) ?_)
    · exact (by simp (disch := omega) only [eq_self, not_true_eq_false, not_false_eq_true, upI_same, upL_same, upI_ne, upL_ne, iI_ixN, zI_mk, zL_mk, zP_mk, zK_mk, zN_mk, zwI_up, zwL_up, zg_some, Nat.reduceMod, Nat.reduceDiv, zcn_I, iI_add, iI_sub, iI_mul, iI_neg, iI_lt, iI_le, iI_eq, iI_lt0, iI_le0, iI_gt0, iI_ge0, iI_eq0] <;> omega)
    · exact (by simp (disch := omega) only [true_or, or_true, eq_self, Option.some.injEq, Prod.mk.injEq, zall_0, zall_1, zall_2, zob_iff, zar_iff, zis_iff, zkIs_some, zkHas_some, iI_vp, z01_I, z01_bz, zch_I, true_and, and_true, or_false, false_or, and_self, upI_same, upL_same, upI_ne, upL_ne, iI_ixN, zI_mk, zL_mk, zP_mk, zK_mk, zN_mk, zwI_up, zwL_up, zg_some, Nat.reduceMod, Nat.reduceDiv, zcn_I, iI_add, iI_sub, iI_mul, iI_neg, iI_lt, iI_le, iI_eq, iI_lt0, iI_le0, iI_gt0, iI_ge0, iI_eq0, k0] <;> omega)
    · simp (disch := omega) only [upI_same, upL_same, upI_ne, upL_ne, iI_ixN, zI_mk, zL_mk, zP_mk, zK_mk, zN_mk, zwI_up, zwL_up, zg_some, Nat.reduceMod, Nat.reduceDiv, zcn_I, iI_add, iI_sub, iI_mul, iI_neg, iI_lt, iI_le, iI_eq, iI_lt0, iI_le0, iI_gt0, iI_ge0, iI_eq0]
      refine unlike_ok (f := st) (g := fun p => st (itf (tn a) i p)) (by omega) (pm_nb (zst_pm hz)) (pm_nb hs) rfl rfl ?_
      exact zW.gr [] rfl rfl rfl (by omega) trivial trivial hQ
  | m + 1, i, hi, y, e => by
    subst e
    obtain ⟨k0, p1, p2, p3, k1, hC, hG⟩ := hL
    have hs := pm_comp (zst_pm hz) (itf_pm (ztn_pm hz ha) i)
    have hr4 := hz.2.2.1
    have har := hR.2.2.2.2.1 a ha
    have har' : upL L b 6 (Rw (fun p => st (itf (tn a) i p))) (b + 1) a = Rw (tn a) := by
      rw [upL_row (by omega)]
      exact har
    refine zW.gbf [] rfl rfl rfl (by omega) trivial ?_ (zW.gz [] rfl rfl rfl (by omega) ?_ trivial rfl rfl (Nat.le_refl _) (Nat.le_refl _) ?_)
    · exact (by simp (disch := omega) only [eq_self, not_true_eq_false, not_false_eq_true, upI_same, upL_same, upI_ne, upL_ne, iI_ixN, zI_mk, zL_mk, zP_mk, zK_mk, zN_mk, zwI_up, zwL_up, zg_some, Nat.reduceMod, Nat.reduceDiv, zcn_I, iI_add, iI_sub, iI_mul, iI_neg, iI_lt, iI_le, iI_eq, iI_lt0, iI_le0, iI_gt0, iI_ge0, iI_eq0] <;> omega)
    · exact (by simp (disch := omega) only [true_or, or_true, eq_self, Option.some.injEq, Prod.mk.injEq, zall_0, zall_1, zall_2, zob_iff, zar_iff, zis_iff, zkIs_some, zkHas_some, iI_vp, z01_I, z01_bz, zch_I, true_and, and_true, or_false, false_or, and_self, upI_same, upL_same, upI_ne, upL_ne, iI_ixN, zI_mk, zL_mk, zP_mk, zK_mk, zN_mk, zwI_up, zwL_up, zg_some, Nat.reduceMod, Nat.reduceDiv, zcn_I, iI_add, iI_sub, iI_mul, iI_neg, iI_lt, iI_le, iI_eq, iI_lt0, iI_le0, iI_gt0, iI_ge0, iI_eq0, k0, p1, k1] <;> omega)
    · simp (disch := omega) only [zI_mk, zL_mk, zP_mk, zg_some, upL_same, iI_ixN, p1, har', Nat.reduceMod]
      refine through_ok (f := fun p => st (itf (tn a) i p)) (g := tn a) (by omega) (pm_nb hs) (ztn_pm hz ha).1 rfl rfl ?_
      refine zW.go [47] rfl (by omega) ?_ ?_
      · exact (by simp (disch := omega) only [true_or, or_true, eq_self, Option.some.injEq, Prod.mk.injEq, zall_0, zall_1, zall_2, zob_iff, zar_iff, zis_iff, zkIs_some, zkHas_some, iI_vp, z01_I, z01_bz, zch_I, true_and, and_true, or_false, false_or, and_self, upI_same, upL_same, upI_ne, upL_ne, iI_ixN, zI_mk, zL_mk, zP_mk, zK_mk, zN_mk, zwI_up, zwL_up, zg_some, Nat.reduceMod, Nat.reduceDiv, zcn_I, iI_add, iI_sub, iI_mul, iI_neg, iI_lt, iI_le, iI_eq, iI_lt0, iI_le0, iI_gt0, iI_ge0, iI_eq0, k0] <;> omega)
      · simp (disch := omega) only [zI_mk, zL_mk, zP_mk, zg_some, zwL_up, Nat.reduceMod, upL_up]
        refine turn_lp hd ⟨k0, p1, p2, p3, k1, hC, hG⟩ hz hR ha hk hQ m (i + 1) (by omega) _ ?_
        exact (by simp (disch := omega) only [eq_self, not_true_eq_false, not_false_eq_true, upI_same, upL_same, upI_ne, upL_ne, iI_ixN, zI_mk, zL_mk, zP_mk, zK_mk, zN_mk, zwI_up, zwL_up, zg_some, Nat.reduceMod, Nat.reduceDiv, zcn_I, iI_add, iI_sub, iI_mul, iI_neg, iI_lt, iI_le, iI_eq, iI_lt0, iI_le0, iI_gt0, iI_ge0, iI_eq0] <;> omega)
theorem turnR_ok {i : Nat} {t : Int} {x y : Int32} (hd : 3 ≤ d) (hL : ZL b R) (hz : zOK n r tn col st) (hR : zPR b I L n r tn col st) (e1 : x = iI (i : Int)) (e2 : y = iI t) (hi : i < r) (ht : -20 ≤ t) (ht2 : t ≤ 20)
    (hQ : Q (.inl (some (zi (iI (ct (fun p => !(st p == st (itf (tn (2 * i + if t < 0 then 1 else 0)) t.natAbs p))) 10 : Nat))))) (I, upL L b 6 (Rw (fun p => st (itf (tn (2 * i + if t < 0 then 1 else 0)) t.natAbs p))), R)) : zS 27 d [zr (some b), zi x, zi y] (I, L, R) Q := by
  subst e1; subst e2
  have hL' := hL
  obtain ⟨k0, p1, p2, p3, k1, hC, hG⟩ := hL'
  have hr4 := hz.2.2.1
  have r4 := hR.2.2.2.1
  have hself : upL L b 6 (Rw (fun p => st (itf (tn (2 * i + if t < 0 then 1 else 0)) 0 p))) = L := upL_id r4
  by_cases h : t < 0
  · rw [if_pos h] at hQ hself
    refine zW.gbf [] rfl rfl rfl (by omega) trivial ?_ (zW.gbf [] rfl rfl rfl (by omega) trivial ?_ (zW.gbt [] rfl rfl rfl (by omega) trivial ?_ (zW.gbf [] rfl rfl rfl (by omega) ?_ ?_ (zW.go [47] rfl (by omega) trivial ?_))))
    · exact (by simp (disch := omega) only [eq_self, not_true_eq_false, not_false_eq_true, upI_same, upL_same, upI_ne, upL_ne, iI_ixN, zI_mk, zL_mk, zP_mk, zK_mk, zN_mk, zwI_up, zwL_up, zg_some, Nat.reduceMod, Nat.reduceDiv, zcn_I, iI_add, iI_sub, iI_mul, iI_neg, iI_lt, iI_le, iI_eq, iI_lt0, iI_le0, iI_gt0, iI_ge0, iI_eq0] <;> omega)
    · exact (by simp (disch := omega) only [eq_self, not_true_eq_false, not_false_eq_true, upI_same, upL_same, upI_ne, upL_ne, iI_ixN, zI_mk, zL_mk, zP_mk, zK_mk, zN_mk, zwI_up, zwL_up, zg_some, Nat.reduceMod, Nat.reduceDiv, zcn_I, iI_add, iI_sub, iI_mul, iI_neg, iI_lt, iI_le, iI_eq, iI_lt0, iI_le0, iI_gt0, iI_ge0, iI_eq0] <;> omega)
    · exact (by simp (disch := omega) only [eq_self, not_true_eq_false, not_false_eq_true, upI_same, upL_same, upI_ne, upL_ne, iI_ixN, zI_mk, zL_mk, zP_mk, zK_mk, zN_mk, zwI_up, zwL_up, zg_some, Nat.reduceMod, Nat.reduceDiv, zcn_I, iI_add, iI_sub, iI_mul, iI_neg, iI_lt, iI_le, iI_eq, iI_lt0, iI_le0, iI_gt0, iI_ge0, iI_eq0] <;> omega)
    · exact (by simp (disch := omega) only [true_or, or_true, eq_self, Option.some.injEq, Prod.mk.injEq, zall_0, zall_1, zall_2, zob_iff, zar_iff, zis_iff, zkIs_some, zkHas_some, iI_vp, z01_I, z01_bz, zch_I, true_and, and_true, or_false, false_or, and_self, upI_same, upL_same, upI_ne, upL_ne, iI_ixN, zI_mk, zL_mk, zP_mk, zK_mk, zN_mk, zwI_up, zwL_up, zg_some, Nat.reduceMod, Nat.reduceDiv, zcn_I, iI_add, iI_sub, iI_mul, iI_neg, iI_lt, iI_le, iI_eq, iI_lt0, iI_le0, iI_gt0, iI_ge0, iI_eq0, k0] <;> omega)
    · exact (by simp (disch := omega) only [eq_self, not_true_eq_false, not_false_eq_true, upI_same, upL_same, upI_ne, upL_ne, iI_ixN, zI_mk, zL_mk, zP_mk, zK_mk, zN_mk, zwI_up, zwL_up, zg_some, Nat.reduceMod, Nat.reduceDiv, zcn_I, iI_add, iI_sub, iI_mul, iI_neg, iI_lt, iI_le, iI_eq, iI_lt0, iI_le0, iI_gt0, iI_ge0, iI_eq0] <;> omega)
    · simp (disch := omega) only [zI_mk, zL_mk, zP_mk, zg_some, Nat.reduceMod, r4, zcn_I, iI_mul, iI_add, iI_neg]
      have e3 : 2 * (i : Int) + 1 = ((2 * i + 1 : Nat) : Int) := by omega
      have e4 : -t = (t.natAbs : Int) := by omega
      rw [e3, e4]
      have := turn_lp (d := d) (b := b) (R := R) (Q := Q) (a := 2 * i + 1) (k := t.natAbs) (x1 := iI (i : Int)) (x2 := iI t) hd hL hz hR (by omega) (by omega) hQ t.natAbs 0 (by omega) _ rfl
      rw [hself] at this
      exact this
  · rw [if_neg h] at hQ hself
    refine zW.gbt [] rfl rfl rfl (by omega) trivial ?_ (zW.gbf [] rfl rfl rfl (by omega) trivial ?_ (zW.gbt [] rfl rfl rfl (by omega) trivial ?_ (zW.gbt [] rfl rfl rfl (by omega) ?_ ?_ (zW.go [47] rfl (by omega) trivial ?_))))
    · exact (by simp (disch := omega) only [eq_self, not_true_eq_false, not_false_eq_true, upI_same, upL_same, upI_ne, upL_ne, iI_ixN, zI_mk, zL_mk, zP_mk, zK_mk, zN_mk, zwI_up, zwL_up, zg_some, Nat.reduceMod, Nat.reduceDiv, zcn_I, iI_add, iI_sub, iI_mul, iI_neg, iI_lt, iI_le, iI_eq, iI_lt0, iI_le0, iI_gt0, iI_ge0, iI_eq0] <;> omega)
    · exact (by simp (disch := omega) only [eq_self, not_true_eq_false, not_false_eq_true, upI_same, upL_same, upI_ne, upL_ne, iI_ixN, zI_mk, zL_mk, zP_mk, zK_mk, zN_mk, zwI_up, zwL_up, zg_some, Nat.reduceMod, Nat.reduceDiv, zcn_I, iI_add, iI_sub, iI_mul, iI_neg, iI_lt, iI_le, iI_eq, iI_lt0, iI_le0, iI_gt0, iI_ge0, iI_eq0] <;> omega)
    · exact (by simp (disch := omega) only [eq_self, not_true_eq_false, not_false_eq_true, upI_same, upL_same, upI_ne, upL_ne, iI_ixN, zI_mk, zL_mk, zP_mk, zK_mk, zN_mk, zwI_up, zwL_up, zg_some, Nat.reduceMod, Nat.reduceDiv, zcn_I, iI_add, iI_sub, iI_mul, iI_neg, iI_lt, iI_le, iI_eq, iI_lt0, iI_le0, iI_gt0, iI_ge0, iI_eq0] <;> omega)
    · exact (by simp (disch := omega) only [true_or, or_true, eq_self, Option.some.injEq, Prod.mk.injEq, zall_0, zall_1, zall_2, zob_iff, zar_iff, zis_iff, zkIs_some, zkHas_some, iI_vp, z01_I, z01_bz, zch_I, true_and, and_true, or_false, false_or, and_self, upI_same, upL_same, upI_ne, upL_ne, iI_ixN, zI_mk, zL_mk, zP_mk, zK_mk, zN_mk, zwI_up, zwL_up, zg_some, Nat.reduceMod, Nat.reduceDiv, zcn_I, iI_add, iI_sub, iI_mul, iI_neg, iI_lt, iI_le, iI_eq, iI_lt0, iI_le0, iI_gt0, iI_ge0, iI_eq0, k0] <;> omega)
    · exact (by simp (disch := omega) only [eq_self, not_true_eq_false, not_false_eq_true, upI_same, upL_same, upI_ne, upL_ne, iI_ixN, zI_mk, zL_mk, zP_mk, zK_mk, zN_mk, zwI_up, zwL_up, zg_some, Nat.reduceMod, Nat.reduceDiv, zcn_I, iI_add, iI_sub, iI_mul, iI_neg, iI_lt, iI_le, iI_eq, iI_lt0, iI_le0, iI_gt0, iI_ge0, iI_eq0] <;> omega)
    · simp (disch := omega) only [zI_mk, zL_mk, zP_mk, zg_some, Nat.reduceMod, r4, zcn_I, iI_mul, iI_add, iI_neg]
      have e3 : 2 * (i : Int) + 0 = ((2 * i + 0 : Nat) : Int) := by omega
      have e4 : t = (t.natAbs : Int) := by omega
      rw [e3, show iI t = iI (t.natAbs : Int) from iI_cg e4]
      have := turn_lp (d := d) (b := b) (R := R) (Q := Q) (a := 2 * i + 0) (k := t.natAbs) (x1 := iI (i : Int)) (x2 := iI (t.natAbs : Int)) hd hL hz hR (by omega) (by omega) hQ t.natAbs 0 (by omega) _ rfl
      rw [hself] at this
      exact this
/-- two pieces swapped -/
def swf (st : Nat → Nat) (x y p : Nat) : Nat := if st p = x then y else if st p = y then x else st p
theorem swf_pm (hs : pm n st) {x y : Nat} (hx : x < n) (hy : y < n) : pm n (swf st x y) := by
  refine ⟨fun p hp => ?_, fun p q hp hq h => ?_, fun p hp => ?_⟩
  · have := hs.1 p hp
    unfold swf
    split
    · exact hy
    · split
      · exact hx
      · exact this
  · unfold swf at h
    refine hs.2.1 p q hp hq ?_
    split at h <;> split at h <;> (try split at h) <;> (try split at h) <;> omega
  · have := hs.2.2 p hp
    unfold swf
    rw [if_neg (by omega), if_neg (by omega)]
    exact this
theorem swap_ok {x y : Nat} {a c : Int32} (hd : 3 ≤ d) (hL : ZL b R) (hz : zOK n r tn col st) (hR : zPR b I L n r tn col st) (e1 : a = iI (x : Int)) (e2 : c = iI (y : Int)) (hx : x < n) (hy : y < n)
    (hQ : Q (.inl none) (I, upL L b 6 (Rw (swf st x y)), R)) : zS 28 d [zr (some b), zi a, zi c] (I, L, R) Q := by
  subst e1; subst e2
  obtain ⟨k0, p1, p2, p3, k1, hC, hG⟩ := hL
  have hn10 := hz.2.1
  have r4 := hR.2.2.2.1
  have hs := zst_pm hz
  have hv := vi_pm hs
  have hx' := hv.1 x (by omega)
  have hy' := hv.1 y (by omega)
  refine zW.gz [] rfl rfl rfl (by omega) ?_ trivial rfl rfl (Nat.le_refl _) (Nat.le_refl _) ?_
  · exact (by simp (disch := omega) only [true_or, or_true, eq_self, Option.some.injEq, Prod.mk.injEq, zall_0, zall_1, zall_2, zob_iff, zar_iff, zis_iff, zkIs_some, zkHas_some, iI_vp, z01_I, z01_bz, zch_I, true_and, and_true, or_false, false_or, and_self, upI_same, upL_same, upI_ne, upL_ne, iI_ixN, zI_mk, zL_mk, zP_mk, zK_mk, zN_mk, zwI_up, zwL_up, zg_some, Nat.reduceMod, Nat.reduceDiv, zcn_I, iI_add, iI_sub, iI_mul, iI_neg, iI_lt, iI_le, iI_eq, iI_lt0, iI_le0, iI_gt0, iI_ge0, iI_eq0, k0] <;> omega)
  · simp (disch := omega) only [upI_same, upL_same, upI_ne, upL_ne, iI_ixN, zI_mk, zL_mk, zP_mk, zK_mk, zN_mk, zwI_up, zwL_up, zg_some, Nat.reduceMod, Nat.reduceDiv, zcn_I, iI_add, iI_sub, iI_mul, iI_neg, iI_lt, iI_le, iI_eq, iI_lt0, iI_le0, iI_gt0, iI_ge0, iI_eq0, r4]
    refine back_ok (f := st) (by omega) hs rfl ?_
    refine zW.gz [] rfl rfl rfl (by omega) ?_ trivial rfl rfl (Nat.le_refl _) (Nat.le_refl _) ?_
    · exact (by simp (disch := omega) only [true_or, or_true, eq_self, Option.some.injEq, Prod.mk.injEq, zall_0, zall_1, zall_2, zob_iff, zar_iff, zis_iff, zkIs_some, zkHas_some, iI_vp, z01_I, z01_bz, zch_I, true_and, and_true, or_false, false_or, and_self, upI_same, upL_same, upI_ne, upL_ne, iI_ixN, zI_mk, zL_mk, zP_mk, zK_mk, zN_mk, zwI_up, zwL_up, zg_some, Nat.reduceMod, Nat.reduceDiv, zcn_I, iI_add, iI_sub, iI_mul, iI_neg, iI_lt, iI_le, iI_eq, iI_lt0, iI_le0, iI_gt0, iI_ge0, iI_eq0, k0] <;> omega)
    · simp (disch := omega) only [upI_same, upL_same, upI_ne, upL_ne, iI_ixN, zI_mk, zL_mk, zP_mk, zK_mk, zN_mk, zwI_up, zwL_up, zg_some, Nat.reduceMod, Nat.reduceDiv, zcn_I, iI_add, iI_sub, iI_mul, iI_neg, iI_lt, iI_le, iI_eq, iI_lt0, iI_le0, iI_gt0, iI_ge0, iI_eq0, r4]
      refine at_ok (f := vi 10 st) (p := x) (by omega) (pm_nb hv) (by omega) rfl rfl ?_
      refine zW.gz [] rfl rfl rfl (by omega) trivial trivial rfl rfl (Nat.le_refl _) (Nat.le_refl _) ?_
      refine with_ok (f := st) (p := vi 10 st x) (v := y) (by omega) (pm_nb hs) hx' (by omega) rfl rfl rfl ?_
      refine zW.gz [] rfl rfl rfl (by omega) ?_ trivial rfl rfl (Nat.le_refl _) (Nat.le_refl _) ?_
      · exact (by simp (disch := omega) only [true_or, or_true, eq_self, Option.some.injEq, Prod.mk.injEq, zall_0, zall_1, zall_2, zob_iff, zar_iff, zis_iff, zkIs_some, zkHas_some, iI_vp, z01_I, z01_bz, zch_I, true_and, and_true, or_false, false_or, and_self, upI_same, upL_same, upI_ne, upL_ne, iI_ixN, zI_mk, zL_mk, zP_mk, zK_mk, zN_mk, zwI_up, zwL_up, zg_some, Nat.reduceMod, Nat.reduceDiv, zcn_I, iI_add, iI_sub, iI_mul, iI_neg, iI_lt, iI_le, iI_eq, iI_lt0, iI_le0, iI_gt0, iI_ge0, iI_eq0, k0] <;> omega)
      · simp (disch := omega) only [upI_same, upL_same, upI_ne, upL_ne, iI_ixN, zI_mk, zL_mk, zP_mk, zK_mk, zN_mk, zwI_up, zwL_up, zg_some, Nat.reduceMod, Nat.reduceDiv, zcn_I, iI_add, iI_sub, iI_mul, iI_neg, iI_lt, iI_le, iI_eq, iI_lt0, iI_le0, iI_gt0, iI_ge0, iI_eq0]
        refine at_ok (f := vi 10 st) (p := y) (by omega) (pm_nb hv) (by omega) rfl rfl ?_
        refine zW.gz [] rfl rfl rfl (by omega) trivial trivial rfl rfl (Nat.le_refl _) (Nat.le_refl _) ?_
        refine with_ok (f := fu st (vi 10 st x) y) (p := vi 10 st y) (v := x) (by omega) (fu_nb (pm_nb hs) (by omega)) hy' (by omega) rfl rfl rfl ?_
        refine zW.gr [] rfl rfl rfl (by omega) ?_ trivial ?_
        · exact (by simp (disch := omega) only [true_or, or_true, eq_self, Option.some.injEq, Prod.mk.injEq, zall_0, zall_1, zall_2, zob_iff, zar_iff, zis_iff, zkIs_some, zkHas_some, iI_vp, z01_I, z01_bz, zch_I, true_and, and_true, or_false, false_or, and_self, upI_same, upL_same, upI_ne, upL_ne, iI_ixN, zI_mk, zL_mk, zP_mk, zK_mk, zN_mk, zwI_up, zwL_up, zg_some, Nat.reduceMod, Nat.reduceDiv, zcn_I, iI_add, iI_sub, iI_mul, iI_neg, iI_lt, iI_le, iI_eq, iI_lt0, iI_le0, iI_gt0, iI_ge0, iI_eq0, k0] <;> omega)
        · simp (disch := omega) only [upI_same, upL_same, upI_ne, upL_ne, iI_ixN, zI_mk, zL_mk, zP_mk, zK_mk, zN_mk, zwI_up, zwL_up, zg_some, Nat.reduceMod, Nat.reduceDiv, zcn_I, iI_add, iI_sub, iI_mul, iI_neg, iI_lt, iI_le, iI_eq, iI_lt0, iI_le0, iI_gt0, iI_ge0, iI_eq0]
          rw [upL_up, show Rw (fu (fu st (vi 10 st x) y) (vi 10 st y) x) = Rw (swf st x y) from Rw_cg fun p hp => ?_]
          · exact hQ
          · unfold fu swf
            have vx : ∀ q, p = vi 10 st q ↔ st p = q := fun q => ⟨fun h => by rw [h, vi_r hs], fun h => by rw [← h, vi_l hs]⟩
            simp only [vx]
            by_cases c1 : st p = y
            · by_cases c2 : st p = x
              · rw [if_pos c1, if_pos c2]
                omega
              · rw [if_pos c1, if_neg c2, if_pos c1]
            · rw [if_neg c1]
              by_cases c2 : st p = x
              · rw [if_pos c2, if_pos c2]
              · rw [if_neg c2, if_neg c2, if_neg c1]
end PUZ2
