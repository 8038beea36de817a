/-! A puzzle of the class: drawing, measuring, the centre, solved states. -/
theorem measure_ok' {d g : Nat} {I : Nat → Nat → Int32} {L : Nat → Nat → Int64} {R : zRt} {Q : zO → zM → Prop} {k sz ac : Nat} {nx : Nat → Nat → Nat} {st : Nat → Nat → Nat} {pt : Nat → Nat} {m : Bool} {x : Int32} {o : Int64} {B : bSt} (hd : 4 ≤ d) (hL : GL g R) (hk : k < 2) (e1 : x = iI (k : Int)) (e2 : o = Rw pt) (hN : gN g I sz ac nx) (hst : ∀ i, i < sz → L (g + 1) i = Rw (st i) ∧ pm 10 (st i)) (hpt : nb pt) (hm : I (g + 15) k = bz m)
    (hB : bF nx (tt k) ac sz (fun i => dc (∀ p, p < 10 → pt (st i p) = pt p)) = B) (hmd : m = true → ∀ s, s < sz → I (g + 12 + k) s = iI (B.1 s))
    (hQ : ∀ I', gfr g k I I' → (∀ s, s < sz → I' (g + 12 + k) s = iI (B.1 s)) → I' (g + 15) k = iI 1 → Q (.inl none) (I', L, R)) : zS 14 d [zr (some g), zi x, zl o] (I, L, R) Q := by
  subst hB
  exact measure_ok hd hL hk e1 e2 hN hst hpt hm hmd hQ
theorem zBF_eq (k r : Nat) (tn : Nat → Nat → Nat) (col : Nat → Nat) : bF (nxG (zG r tn) tn) (tt k) (2 * r) (szG (zG r tn) 10) (fun i => dc (∀ p, p < 10 → col (stG (zG r tn) i p) = col p)) = zBF k r tn col := rfl
section PUZ3
variable {d b n r : Nat} {tn : Nat → Nat → Nat} {col st : Nat → Nat} {I : Nat → Nat → Int32} {L : Nat → Nat → Int64} {R : zRt} {Q : zO → zM → Prop}
theorem drawn_ok (hd : 6 ≤ d) (hL : ZL b R) (hz : zOK n r tn col st) (hR : zPR b I L n r tn col st) (h800 : szG (zG r tn) 10 ≤ 800)
    (hQ : ∀ I' L', zfr b I L I' L' → zPR b I' L' n r tn col st → zDr b I' L' r tn → Q (.inl (some (zr (some (b + 7))))) (I', L', R)) : zS 36 d [zr (some b)] (I, L, R) Q := by
  have hL' := hL
  obtain ⟨k0, p1, p2, p3, k1, hC, hG⟩ := hL'
  have hR' := hR
  obtain ⟨r1, r2, r3, r4, r5, r6, dr, m, g1, g2, g3⟩ := hR'
  have gk := hG.1
  cases dr with
  | true =>
    refine zW.gbt [] rfl rfl rfl (by omega) ?_ ?_ (zW.gr [] rfl rfl rfl (by omega) ?_ trivial ?_)
    · exact (by simp (disch := omega) only [true_or, or_true, eq_self, Option.some.injEq, Prod.mk.injEq, zall_0, zall_1, zall_2, zob_iff, zar_iff, zis_iff, zkIs_some, zkHas_some, iI_vp, z01_I, z01_bz, zch_I, true_and, and_true, or_false, false_or, and_self, upI_same, upL_same, upI_ne, upL_ne, iI_ixN, zI_mk, zL_mk, zP_mk, zK_mk, zN_mk, zwI_up, zwL_up, zg_some, Nat.reduceMod, Nat.reduceDiv, zcn_I, iI_add, iI_sub, iI_mul, iI_neg, iI_lt, iI_le, iI_eq, iI_lt0, iI_le0, iI_gt0, iI_ge0, iI_eq0, k0, p3, gk] <;> omega)
    · exact (by simp (disch := omega) only [eq_self, not_true_eq_false, not_false_eq_true, upI_same, upL_same, upI_ne, upL_ne, iI_ixN, zI_mk, zL_mk, zP_mk, zK_mk, zN_mk, zwI_up, zwL_up, zg_some, Nat.reduceMod, Nat.reduceDiv, zcn_I, iI_add, iI_sub, iI_mul, iI_neg, iI_lt, iI_le, iI_eq, iI_lt0, iI_le0, iI_gt0, iI_ge0, iI_eq0, p3, g1, bz_t] <;> omega)
    · exact (by simp (disch := omega) only [true_or, or_true, eq_self, Option.some.injEq, Prod.mk.injEq, zall_0, zall_1, zall_2, zob_iff, zar_iff, zis_iff, zkIs_some, zkHas_some, iI_vp, z01_I, z01_bz, zch_I, true_and, and_true, or_false, false_or, and_self, upI_same, upL_same, upI_ne, upL_ne, iI_ixN, zI_mk, zL_mk, zP_mk, zK_mk, zN_mk, zwI_up, zwL_up, zg_some, Nat.reduceMod, Nat.reduceDiv, zcn_I, iI_add, iI_sub, iI_mul, iI_neg, iI_lt, iI_le, iI_eq, iI_lt0, iI_le0, iI_gt0, iI_ge0, iI_eq0, k0] <;> omega)
    · simp (disch := omega) only [upI_same, upL_same, upI_ne, upL_ne, iI_ixN, zI_mk, zL_mk, zP_mk, zK_mk, zN_mk, zwI_up, zwL_up, zg_some, Nat.reduceMod, Nat.reduceDiv, zcn_I, iI_add, iI_sub, iI_mul, iI_neg, iI_lt, iI_le, iI_eq, iI_lt0, iI_le0, iI_gt0, iI_ge0, iI_eq0, p3]
      exact hQ I L (zfr_rf _ _ _) hR ⟨g1, g2 rfl⟩
  | false =>
    have hm : ∀ k, k < 2 → m k = false := fun k hk => by
      cases q : m k with
      | false => rfl
      | true => cases ((g3 k hk).2 q).1
    have hr4 := hz.2.2.1
    refine zW.gbf [] rfl rfl rfl (by omega) ?_ ?_ (zW.gz [] rfl rfl rfl (by omega) ?_ ?_ rfl rfl (Nat.le_refl _) (Nat.le_refl _) ?_)
    · exact (by simp (disch := omega) only [true_or, or_true, eq_self, Option.some.injEq, Prod.mk.injEq, zall_0, zall_1, zall_2, zob_iff, zar_iff, zis_iff, zkIs_some, zkHas_some, iI_vp, z01_I, z01_bz, zch_I, true_and, and_true, or_false, false_or, and_self, upI_same, upL_same, upI_ne, upL_ne, iI_ixN, zI_mk, zL_mk, zP_mk, zK_mk, zN_mk, zwI_up, zwL_up, zg_some, Nat.reduceMod, Nat.reduceDiv, zcn_I, iI_add, iI_sub, iI_mul, iI_neg, iI_lt, iI_le, iI_eq, iI_lt0, iI_le0, iI_gt0, iI_ge0, iI_eq0, k0, p3, gk] <;> omega)
    · exact (by simp (disch := omega) only [eq_self, not_true_eq_false, not_false_eq_true, upI_same, upL_same, upI_ne, upL_ne, iI_ixN, zI_mk, zL_mk, zP_mk, zK_mk, zN_mk, zwI_up, zwL_up, zg_some, Nat.reduceMod, Nat.reduceDiv, zcn_I, iI_add, iI_sub, iI_mul, iI_neg, iI_lt, iI_le, iI_eq, iI_lt0, iI_le0, iI_gt0, iI_ge0, iI_eq0, p3, g1, bz_f] <;> omega)
    · exact (by simp (disch := omega) only [true_or, or_true, eq_self, Option.some.injEq, Prod.mk.injEq, zall_0, zall_1, zall_2, zob_iff, zar_iff, zis_iff, zkIs_some, zkHas_some, iI_vp, z01_I, z01_bz, zch_I, true_and, and_true, or_false, false_or, and_self, upI_same, upL_same, upI_ne, upL_ne, iI_ixN, zI_mk, zL_mk, zP_mk, zK_mk, zN_mk, zwI_up, zwL_up, zg_some, Nat.reduceMod, Nat.reduceDiv, zcn_I, iI_add, iI_sub, iI_mul, iI_neg, iI_lt, iI_le, iI_eq, iI_lt0, iI_le0, iI_gt0, iI_ge0, iI_eq0, k0] <;> omega)
    · simp (disch := omega) only [upI_same, upL_same, upI_ne, upL_ne, iI_ixN, zI_mk, zL_mk, zP_mk, zK_mk, zN_mk, zwI_up, zwL_up, zg_some, Nat.reduceMod, Nat.reduceDiv, zcn_I, iI_add, iI_sub, iI_mul, iI_neg, iI_lt, iI_le, iI_eq, iI_lt0, iI_le0, iI_gt0, iI_ge0, iI_eq0, p3]
      exact ⟨_, rfl, gk⟩
    · simp (disch := omega) only [upI_same, upL_same, upI_ne, upL_ne, iI_ixN, zI_mk, zL_mk, zP_mk, zK_mk, zN_mk, zwI_up, zwL_up, zg_some, Nat.reduceMod, Nat.reduceDiv, zcn_I, iI_add, iI_sub, iI_mul, iI_neg, iI_lt, iI_le, iI_eq, iI_lt0, iI_le0, iI_gt0, iI_ge0, iI_eq0, p1, p2, p3, r2]
      refine draw_ok (c := b + 2) (am := b + 1) (cnt := 2 * r) (A := zA r tn) (arm := tn) (by omega) hG hC (by omega) k1 (by omega) (zA_pm hz) rfl h800 r6 ?_ (by omega) r5 (fun a ha => zG_tn hz ha) (fun I' L' f gn gs g8 => ?_)
      · exact (by simp (disch := omega) only [eq_self, not_true_eq_false, not_false_eq_true, upI_same, upL_same, upI_ne, upL_ne, iI_ixN, zI_mk, zL_mk, zP_mk, zK_mk, zN_mk, zwI_up, zwL_up, zg_some, Nat.reduceMod, Nat.reduceDiv, zcn_I, iI_add, iI_sub, iI_mul, iI_neg, iI_lt, iI_le, iI_eq, iI_lt0, iI_le0, iI_gt0, iI_ge0, iI_eq0] <;> omega)
      · refine zW.gr [] rfl rfl rfl (by omega) ?_ trivial ?_
        · exact (by simp (disch := omega) only [true_or, or_true, eq_self, Option.some.injEq, Prod.mk.injEq, zall_0, zall_1, zall_2, zob_iff, zar_iff, zis_iff, zkIs_some, zkHas_some, iI_vp, z01_I, z01_bz, zch_I, true_and, and_true, or_false, false_or, and_self, upI_same, upL_same, upI_ne, upL_ne, iI_ixN, zI_mk, zL_mk, zP_mk, zK_mk, zN_mk, zwI_up, zwL_up, zg_some, Nat.reduceMod, Nat.reduceDiv, zcn_I, iI_add, iI_sub, iI_mul, iI_neg, iI_lt, iI_le, iI_eq, iI_lt0, iI_le0, iI_gt0, iI_ge0, iI_eq0, k0] <;> omega)
        · simp (disch := omega) only [upI_same, upL_same, upI_ne, upL_ne, iI_ixN, zI_mk, zL_mk, zP_mk, zK_mk, zN_mk, zwI_up, zwL_up, zg_some, Nat.reduceMod, Nat.reduceDiv, zcn_I, iI_add, iI_sub, iI_mul, iI_neg, iI_lt, iI_le, iI_eq, iI_lt0, iI_le0, iI_gt0, iI_ge0, iI_eq0, p3]
          obtain ⟨f1, f2, f3⟩ := f
          have ee : ∀ a, a < b + 7 → I' a = I a := fun a q => f1 a (by omega) (by omega)
          have el : ∀ a, a ≠ b + 8 → L' a = L a := fun a q => f3 a (by omega)
          refine hQ I' L' ⟨fun a q => f1 a (by omega) (by omega), fun a q => el a (by omega)⟩ ⟨?_, ?_, ?_, ?_, fun a ha => ?_, ?_, true, m, g8, fun _ => ⟨gn, gs⟩, fun k hk => ⟨?_, fun q => by rw [hm k hk] at q; cases q⟩⟩ ⟨g8, gn, gs⟩
          · rw [ee b (by omega)]
            exact r1
          · rw [ee b (by omega)]
            exact r2
          · rw [el b (by omega)]
            exact r3
          · rw [el b (by omega)]
            exact r4
          · rw [el _ (by omega)]
            exact r5 a ha
          · exact chain_fr r6 (ee _ (by omega)) (fun a q1 q2 => el a (by omega))
          · rw [f1 _ (by omega) (by omega)]
            exact (g3 k hk).1
theorem measured_ok {k : Nat} {x : Int32} (hd : 7 ≤ d) (hL : ZL b R) (hz : zOK n r tn col st) (hR : zPR b I L n r tn col st) (h800 : szG (zG r tn) 10 ≤ 800) (hk : k < 2) (e : x = iI (k : Int))
    (hQ : ∀ I' L', zfr b I L I' L' → zPR b I' L' n r tn col st → zDr b I' L' r tn → (∀ s, s < szG (zG r tn) 10 → I' (b + 19 + k) s = iI ((zBF k r tn col).1 s)) → Q (.inl (some (zr (some (b + 7))))) (I', L', R)) : zS 37 d [zr (some b), zi x] (I, L, R) Q := by
  subst e
  have hL' := hL
  obtain ⟨k0, p1, p2, p3, k1, hC, hG⟩ := hL'
  have gk := hG.1
  refine zW.gz [] rfl rfl rfl (by omega) trivial ?_ rfl rfl (Nat.le_refl _) (Nat.le_refl _) ?_
  · exact ⟨_, rfl, k0⟩
  · refine drawn_ok (by omega) hL hz hR h800 (fun I1 L1 f1 R1 D1 => ?_)
    have hR1 := R1
    obtain ⟨r1, r2, r3, r4, r5, r6, dr, m, g1, g2, g3⟩ := hR1
    refine zW.gz [] rfl rfl rfl (by omega) ?_ ?_ rfl rfl (Nat.le_refl _) (Nat.le_refl _) ?_
    · exact (by simp (disch := omega) only [true_or, or_true, eq_self, Option.some.injEq, Prod.mk.injEq, zall_0, zall_1, zall_2, zob_iff, zar_iff, zis_iff, zkIs_some, zkHas_some, iI_vp, z01_I, z01_bz, zch_I, true_and, and_true, or_false, false_or, and_self, upI_same, upL_same, upI_ne, upL_ne, iI_ixN, zI_mk, zL_mk, zP_mk, zK_mk, zN_mk, zwI_up, zwL_up, zg_some, Nat.reduceMod, Nat.reduceDiv, zcn_I, iI_add, iI_sub, iI_mul, iI_neg, iI_lt, iI_le, iI_eq, iI_lt0, iI_le0, iI_gt0, iI_ge0, iI_eq0, k0] <;> omega)
    · exact ⟨_, rfl, gk⟩
    · simp (disch := omega) only [upI_same, upL_same, upI_ne, upL_ne, iI_ixN, zI_mk, zL_mk, zP_mk, zK_mk, zN_mk, zwI_up, zwL_up, zg_some, Nat.reduceMod, Nat.reduceDiv, zcn_I, iI_add, iI_sub, iI_mul, iI_neg, iI_lt, iI_le, iI_eq, iI_lt0, iI_le0, iI_gt0, iI_ge0, iI_eq0, r3]
      refine measure_ok' (k := k) (st := stG (zG r tn)) (pt := col) (m := m k) (by omega) hG hk rfl rfl D1.2.1 (fun i hi => ⟨D1.2.2 i hi, (zG_is hz).1 _ (stG_sp (zG_is hz) hi).1⟩) (zcol_nb hz) (g3 k hk).1 (zBF_eq k r tn col) (fun q => ((g3 k hk).2 q).2) (fun I2 f2 b2 b3 => ?_)
      refine zW.gr [] rfl rfl rfl (by omega) ?_ trivial ?_
      · exact (by simp (disch := omega) only [true_or, or_true, eq_self, Option.some.injEq, Prod.mk.injEq, zall_0, zall_1, zall_2, zob_iff, zar_iff, zis_iff, zkIs_some, zkHas_some, iI_vp, z01_I, z01_bz, zch_I, true_and, and_true, or_false, false_or, and_self, upI_same, upL_same, upI_ne, upL_ne, iI_ixN, zI_mk, zL_mk, zP_mk, zK_mk, zN_mk, zwI_up, zwL_up, zg_some, Nat.reduceMod, Nat.reduceDiv, zcn_I, iI_add, iI_sub, iI_mul, iI_neg, iI_lt, iI_le, iI_eq, iI_lt0, iI_le0, iI_gt0, iI_ge0, iI_eq0, k0] <;> omega)
      · simp (disch := omega) only [upI_same, upL_same, upI_ne, upL_ne, iI_ixN, zI_mk, zL_mk, zP_mk, zK_mk, zN_mk, zwI_up, zwL_up, zg_some, Nat.reduceMod, Nat.reduceDiv, zcn_I, iI_add, iI_sub, iI_mul, iI_neg, iI_lt, iI_le, iI_eq, iI_lt0, iI_le0, iI_gt0, iI_ge0, iI_eq0, p3]
        obtain ⟨f21, f22, f23⟩ := f2
        have ee : ∀ a, a < b + 7 → I2 a = I1 a := fun a q => f21 a (by omega) (by omega) (by omega) (by omega)
        obtain ⟨D0, ⟨n1, n2, n3, n4, n5, n6⟩, D2⟩ := D1
        have gn : gN (b + 7) I2 (szG (zG r tn) 10) (2 * r) (nxG (zG r tn) tn) := by
          refine ⟨n1, n2, ?_, ?_, fun a s ha hs => ?_, n6⟩
          · rw [f22 6 (by decide)]
            exact n3
          · rw [f22 7 (by decide)]
            exact n4
          · rw [f21 _ (by omega) (by omega) (by omega) (by omega)]
            exact n5 a s ha hs
        refine hQ I2 L1 (zfr_tr f1 ⟨fun a q => f21 a (by omega) (by omega) (by omega) (by omega), fun _ _ => rfl⟩) ⟨?_, ?_, r3, r4, r5, ?_, true, fun j => if j = k then true else m j, ?_, fun _ => ⟨gn, D2⟩, fun j hj => ⟨?_, fun q => ⟨rfl, fun s hs => ?_⟩⟩⟩ ⟨(f22 8 (by decide)).trans D0, gn, D2⟩ (fun s hs => ?_)
        · rw [ee b (by omega)]
          exact r1
        · rw [ee b (by omega)]
          exact r2
        · exact chain_fr r6 (ee _ (by omega)) (fun _ _ _ => rfl)
        · exact (f22 8 (by decide)).trans D0
        · show I2 (b + 7 + 15) j = bz (if j = k then true else m j)
          by_cases c : j = k
          · rw [if_pos c, c, b3]
            rfl
          · rw [if_neg c, f23 j c]
            exact (g3 j hj).1
        · by_cases c : j = k
          · rw [c]
            exact b2 s hs
          · have q : (if j = k then true else m j) = true := q
            rw [if_neg c] at q
            rw [f21 _ (by omega) (by omega) (by omega) (by omega)]
            exact ((g3 j hj).2 q).2 s hs
        · exact b2 s hs
end PUZ3
