/-! The class counts orbits. -/
def orbR (G : (Nat → Nat) → Prop) (p q : Nat) : Prop := ∃ g, G g ∧ g p = q
/-- the least of its row, which has more -/
def orbL (G : (Nat → Nat) → Prop) (k : Nat) : Prop := (∀ j, orbR G k j → k ≤ j) ∧ ∃ j, j ≠ k ∧ orbR G k j
noncomputable def orbC (G : (Nat → Nat) → Prop) (n : Nat) : Nat := ct (fun k => dc (orbL G k)) n
theorem orbR_rf {G : (Nat → Nat) → Prop} (hG : isG G) (p : Nat) : orbR G p p := ⟨_, hG.2.1, rfl⟩
theorem orbR_sy {G : (Nat → Nat) → Prop} (hG : isG G) {p q : Nat} (h : orbR G p q) : orbR G q p := by
  obtain ⟨g, g1, g2⟩ := h
  exact ⟨_, hG.2.2.2 _ g1, by rw [← g2]; exact vi_l (hG.1 _ g1) p⟩
theorem orbR_tr {G : (Nat → Nat) → Prop} (hG : isG G) {p q r : Nat} (h : orbR G p q) (k : orbR G q r) : orbR G p r := by
  obtain ⟨g, g1, g2⟩ := h
  obtain ⟨u, u1, u2⟩ := k
  exact ⟨_, hG.2.2.1 _ _ u1 g1, by show u (g p) = r; rw [g2, u2]⟩
theorem orbR_lt {G : (Nat → Nat) → Prop} (hG : isG G) {p q : Nat} (hp : p < 10) (h : orbR G p q) : q < 10 := by
  obtain ⟨g, g1, g2⟩ := h
  rw [← g2]
  exact (hG.1 _ g1).1 p hp
def clF (r : Nat) (tn : Nat → Nat → Nat) (A : Nat → Bool) : Prop := ∀ q, q < 10 → A q = true → ∀ i, i < r → A (tn (2 * i) q) = true
theorem fuB_id {A : Nat → Bool} {p : Nat} (h : A p = true) : fuB A p = A := by
  funext q
  unfold fuB
  by_cases e : q = p
  · rw [if_pos e, e, h]
  · rw [if_neg e]
theorem clF_orb {n r : Nat} {tn : Nat → Nat → Nat} {col st : Nat → Nat} (hz : zOK n r tn col st) {A : Nat → Bool} {s : Nat} (hs : s < 10) (hA : A s = true) (hc : clF r tn A) {p : Nat} (h : orbR (zG r tn) s p) : A p = true := by
  obtain ⟨g, g1, g2⟩ := h
  have key := g1 (fun g => ∀ q, q < 10 → A q = true → g q < 10 ∧ A (g q) = true) (fun q hq ha => ⟨hq, ha⟩) (fun g hg q hq ha => by
    obtain ⟨i, hi, rfl⟩ := hg
    exact ⟨(ztn_pm hz (show 2 * i < 2 * r by omega)).1 q hq, hc q hq ha i hi⟩) (fun f g h1 h2 q hq ha => h1 _ (h2 q hq ha).1 (h2 q hq ha).2)
  have := (key s hs hA).2
  rwa [g2] at this
theorem ct_two {A : Nat → Bool} {k n : Nat} (hk : k < n) (hA : A k = true) : 1 < ct A n ↔ ∃ j, j < n ∧ j ≠ k ∧ A j = true := by
  constructor
  · intro h
    rcases Classical.em (∃ j, j < n ∧ j ≠ k ∧ A j = true) with g | g
    · exact g
    · have e := ct_set (a := fun _ => false) (b := A) hk rfl hA (fun j hj hne => by
        cases hc : A j with
        | false => rfl
        | true => exact absurd ⟨j, hj, hne, hc⟩ g)
      rw [ct_z (fun _ _ => rfl)] at e
      omega
  · rintro ⟨j, j1, j2, j3⟩
    have e := ct_set (a := fun _ => false) (b := fuB (fun _ => false) k) hk rfl (fuB_s _ _) (fun q _ c => fuB_o c)
    rw [ct_z (fun _ _ => rfl)] at e
    have := ct_lt (a := fuB (fun _ => false) k) (b := A) (i := j) (n := n) (fun q _ h => by
      by_cases c : q = k
      · rw [c]
        exact hA
      · rw [fuB_o c] at h
        cases h) j1 (fuB_o j2) j3
    omega
section TORB
variable {d x z b n r : Nat} {tn : Nat → Nat → Nat} {col st : Nat → Nat} {T : tfT} {I : Nat → Nat → Int32} {L : Nat → Nat → Int64} {R : zRt} {Q : zO → zM → Prop}
theorem bitCount_ok {M : Nat} {y : Int32} {M0 : zM} (hd : 1 ≤ d) (e : y = iI (M : Int)) (hM : M < 1024) (hQ : Q (.inl (some (zi (iI (ct (fun p => M.testBit p) 10 : Nat))))) M0) : zS 253 d [zi y] M0 Q := by
  subst e
  refine zW.gr [] rfl rfl rfl (by omega) trivial trivial ?_
  refine Eq.mp (congrArg (fun v => Q (.inl (some (zi v))) M0) ?_) hQ
  clear hQ
  revert M
  decide +kernel
/-- of the places come to, those ahead of p have all rings tried, p those ahead of j -/
def orJ (r : Nat) (tn : Nat → Nat → Nat) (s : Nat) (A0 A : Nat → Bool) (p j : Nat) : Prop := (∀ q, q < 10 → A q = true → orbR (zG r tn) s q) ∧ (∀ q, A0 q = true → A q = true) ∧ (∀ q, q < p → A0 q = true → ∀ i, i < r → A (tn (2 * i) q) = true) ∧ (A0 p = true → ∀ i, i < j → i < r → A (tn (2 * i) p) = true) ∧ (clF r tn A0 → A = A0)
theorem orb_in {s p : Nat} {A0 : Nat → Bool} {t : Int32} (hd : 3 ≤ d) (hL : ZL b R) (hz : zOK n r tn col st) (hR : zPR b I L n r tn col st) (hp : p < 10)
    (hQ : ∀ (O : Nat) (A : Nat → Bool) (v : Int32), bts O A → orJ r tn s A0 A (p + 1) 0 → zW 35 d 0 0 75 [some (zr (some b)), some (zi (iI (s : Int))), some (zi (iI (O : Int))), some (zi t), some (zi (iI (p : Int))), some (zi v)] [] (I, L, R) Q) :
    ∀ m j, j + m = r → ∀ (O : Nat) (A : Nat → Bool) (o y : Int32), bts O A → orJ r tn s A0 A p j → o = iI (O : Int) → y = iI (j : Int) → zW 35 d 0 0 25 [some (zr (some b)), some (zi (iI (s : Int))), some (zi o), some (zi t), some (zi (iI (p : Int))), some (zi y)] [] (I, L, R) Q
  | 0, j, hj, O, A, o, y, hb, hJ, e1, e2 => by
    subst e1; subst e2
    have k0 := hL.1
    have r2 := hR.2.1
    have hr4 := hz.2.2.1
    refine zW.gbt [] rfl rfl rfl (by omega) (by simp (disch := omega) only [true_or, or_true, eq_self, Option.some.injEq, Prod.mk.injEq, zall_0, zall_1, zall_2, zob_iff, zar_iff, zis_iff, zkIs_some, zkHas_some, iI_vp, z01_I, z01_bz, zch_I, true_and, and_true, or_false, false_or, and_self, upI_same, upL_same, upI_ne, upL_ne, iI_ixN, zI_mk, zL_mk, zP_mk, zK_mk, zN_mk, zwI_up, zwL_up, zg_some, Nat.reduceMod, Nat.reduceDiv, zcn_I, iI_add, iI_sub, iI_mul, iI_neg, iI_lt, iI_le, iI_eq, iI_lt0, iI_le0, iI_gt0, iI_ge0, iI_eq0, k0] <;> omega) (by simp (disch := omega) only [eq_self, not_true_eq_false, not_false_eq_true, upI_same, upL_same, upI_ne, upL_ne, iI_ixN, zI_mk, zL_mk, zP_mk, zK_mk, zN_mk, zwI_up, zwL_up, zg_some, Nat.reduceMod, Nat.reduceDiv, zcn_I, iI_add, iI_sub, iI_mul, iI_neg, iI_lt, iI_le, iI_eq, iI_lt0, iI_le0, iI_gt0, iI_ge0, iI_eq0, r2] <;> omega) ?_
    refine hQ O A _ hb ⟨hJ.1, hJ.2.1, fun q hq ha i hi => ?_, fun _ i hi => absurd hi (Nat.not_lt_zero i), hJ.2.2.2.2⟩
    by_cases c : q = p
    · rw [c] at ha ⊢
      exact hJ.2.2.2.1 ha i (by omega) hi
    · exact hJ.2.2.1 q (by omega) ha i hi
  | m + 1, j, hj, O, A, o, y, hb, hJ, e1, e2 => by
    subst e1; subst e2
    obtain ⟨k0, p1, p2, p3, k1, hC, hG⟩ := hL
    have r2 := hR.2.1
    have hr4 := hz.2.2.1
    have ha := hR.2.2.2.2.1 (2 * j) (by omega)
    have hpm := ztn_pm hz (show 2 * j < 2 * r by omega)
    have e2 : zcn 2 * iI (j : Int) = iI ((2 * j : Nat) : Int) := by
      rw [zcn_I, iI_mul]
      exact iI_cg (by omega)
    refine zW.gbf [] rfl rfl rfl (by omega) (by simp (disch := omega) only [true_or, or_true, eq_self, Option.some.injEq, Prod.mk.injEq, zall_0, zall_1, zall_2, zob_iff, zar_iff, zis_iff, zkIs_some, zkHas_some, iI_vp, z01_I, z01_bz, zch_I, true_and, and_true, or_false, false_or, and_self, upI_same, upL_same, upI_ne, upL_ne, iI_ixN, zI_mk, zL_mk, zP_mk, zK_mk, zN_mk, zwI_up, zwL_up, zg_some, Nat.reduceMod, Nat.reduceDiv, zcn_I, iI_add, iI_sub, iI_mul, iI_neg, iI_lt, iI_le, iI_eq, iI_lt0, iI_le0, iI_gt0, iI_ge0, iI_eq0, k0] <;> omega) (by simp (disch := omega) only [eq_self, not_true_eq_false, not_false_eq_true, upI_same, upL_same, upI_ne, upL_ne, iI_ixN, zI_mk, zL_mk, zP_mk, zK_mk, zN_mk, zwI_up, zwL_up, zg_some, Nat.reduceMod, Nat.reduceDiv, zcn_I, iI_add, iI_sub, iI_mul, iI_neg, iI_lt, iI_le, iI_eq, iI_lt0, iI_le0, iI_gt0, iI_ge0, iI_eq0, r2] <;> omega) ?_
    refine zW.gbf [] rfl rfl rfl (by omega) trivial (by simp (disch := omega) only [eq_self, not_true_eq_false, not_false_eq_true, upI_same, upL_same, upI_ne, upL_ne, iI_ixN, zI_mk, zL_mk, zP_mk, zK_mk, zN_mk, zwI_up, zwL_up, zg_some, Nat.reduceMod, Nat.reduceDiv, zcn_I, iI_add, iI_sub, iI_mul, iI_neg, iI_lt, iI_le, iI_eq, iI_lt0, iI_le0, iI_gt0, iI_ge0, iI_eq0] <;> omega) ?_
    cases hA : A p with
    | false =>
      refine zW.gbt [] rfl rfl rfl (by omega) trivial ?_ ?_
      · rw [zcn_I, bit_at hb hp, hA]
        decide +kernel
      · refine zW.go [25] rfl (by omega) trivial ?_
        refine orb_in hd ⟨k0, p1, p2, p3, k1, hC, hG⟩ hz hR hp hQ m (j + 1) (by omega) O A _ _ hb ⟨hJ.1, hJ.2.1, hJ.2.2.1, fun q => ?_, hJ.2.2.2.2⟩ rfl (by rw [zcn_I, iI_add]; rfl)
        rw [hJ.2.1 p q] at hA
        cases hA
    | true =>
      refine zW.gbf [] rfl rfl rfl (by omega) trivial ?_ ?_
      · intro h
        refine h ?_
        rw [zcn_I, bit_at hb hp, hA]
        rfl
      refine zW.gz [] rfl rfl rfl (by omega) ?_ trivial rfl rfl (Nat.le_refl _) (Nat.le_refl _) ?_
      · rw [e2]
        exact (by simp (disch := omega) only [true_or, or_true, eq_self, Option.some.injEq, Prod.mk.injEq, zall_0, zall_1, zall_2, zob_iff, zar_iff, zis_iff, zkIs_some, zkHas_some, iI_vp, z01_I, z01_bz, zch_I, true_and, and_true, or_false, false_or, and_self, upI_same, upL_same, upI_ne, upL_ne, iI_ixN, zI_mk, zL_mk, zP_mk, zK_mk, zN_mk, zwI_up, zwL_up, zg_some, Nat.reduceMod, Nat.reduceDiv, zcn_I, iI_add, iI_sub, iI_mul, iI_neg, iI_lt, iI_le, iI_eq, iI_lt0, iI_le0, iI_gt0, iI_ge0, iI_eq0, k0, p1, k1] <;> omega)
      rw [e2]
      simp (disch := omega) only [upI_same, upL_same, upI_ne, upL_ne, iI_ixN, zI_mk, zL_mk, zP_mk, zK_mk, zN_mk, zwI_up, zwL_up, zg_some, Nat.reduceMod, Nat.reduceDiv, zcn_I, iI_add, iI_sub, iI_mul, iI_neg, iI_lt, iI_le, iI_eq, iI_lt0, iI_le0, iI_gt0, iI_ge0, iI_eq0, p1, ha]
      refine at_ok (f := tn (2 * j)) (p := p) (by omega) (pm_nb hpm) hp rfl rfl ?_
      have hlt := hpm.1 p hp
      refine zW.go [25] rfl (by omega) trivial ?_
      rw [zcn_I, pw2i (by omega), iI_or]
      refine orb_in hd ⟨k0, p1, p2, p3, k1, hC, hG⟩ hz hR hp hQ m (j + 1) (by omega) _ (fuB A (tn (2 * j) p)) _ _ (bts_or hb hlt) ⟨fun q hq h => ?_, fun q h => fuB_u (hJ.2.1 q h), fun q hq h i hi => fuB_u (hJ.2.2.1 q hq h i hi), fun h i hi hir => ?_, fun h => ?_⟩ rfl (by rw [iI_add]; rfl)
      · by_cases c : q = tn (2 * j) p
        · rw [c]
          exact orbR_tr (zG_is hz) (hJ.1 p hp hA) ⟨_, zG_tn hz (show 2 * j < 2 * r by omega), rfl⟩
        · rw [fuB_o c] at h
          exact hJ.1 q hq h
      · by_cases c : i = j
        · rw [c]
          exact fuB_s _ _
        · exact fuB_u (hJ.2.2.2.1 h i (by omega) hir)
      · have e := hJ.2.2.2.2 h
        rw [fuB_id ?_]
        · exact e
        · rw [e] at hA ⊢
          exact h p hp hA j (by omega)
theorem orb_mid {s : Nat} {A0 : Nat → Bool} {t : Int32} (hd : 3 ≤ d) (hL : ZL b R) (hz : zOK n r tn col st) (hR : zPR b I L n r tn col st)
    (hQ : ∀ (O : Nat) (A : Nat → Bool) (v w : Option zV), bts O A → orJ r tn s A0 A 10 0 → zW 35 d 0 0 81 [some (zr (some b)), some (zi (iI (s : Int))), some (zi (iI (O : Int))), some (zi t), v, w] [] (I, L, R) Q) :
    ∀ m p, p + m = 10 → ∀ (O : Nat) (A : Nat → Bool) (o y : Int32) (w : Option zV), bts O A → orJ r tn s A0 A p 0 → o = iI (O : Int) → y = iI (p : Int) → zW 35 d 0 0 15 [some (zr (some b)), some (zi (iI (s : Int))), some (zi o), some (zi t), some (zi y), w] [] (I, L, R) Q
  | 0, p, hp, O, A, o, y, w, hb, hJ, e1, e2 => by
    subst e1; subst e2
    obtain rfl : p = 10 := by omega
    exact zW.gbt [] rfl rfl rfl (by omega) trivial (by simp (disch := omega) only [eq_self, not_true_eq_false, not_false_eq_true, upI_same, upL_same, upI_ne, upL_ne, iI_ixN, zI_mk, zL_mk, zP_mk, zK_mk, zN_mk, zwI_up, zwL_up, zg_some, Nat.reduceMod, Nat.reduceDiv, zcn_I, iI_add, iI_sub, iI_mul, iI_neg, iI_lt, iI_le, iI_eq, iI_lt0, iI_le0, iI_gt0, iI_ge0, iI_eq0] <;> omega) (hQ O A _ _ hb hJ)
  | m + 1, p, hp, O, A, o, y, w, hb, hJ, e1, e2 => by
    subst e1; subst e2
    refine zW.gbf [] rfl rfl rfl (by omega) trivial (by simp (disch := omega) only [eq_self, not_true_eq_false, not_false_eq_true, upI_same, upL_same, upI_ne, upL_ne, iI_ixN, zI_mk, zL_mk, zP_mk, zK_mk, zN_mk, zwI_up, zwL_up, zg_some, Nat.reduceMod, Nat.reduceDiv, zcn_I, iI_add, iI_sub, iI_mul, iI_neg, iI_lt, iI_le, iI_eq, iI_lt0, iI_le0, iI_gt0, iI_ge0, iI_eq0] <;> omega) ?_
    refine zW.go [25] rfl (by omega) trivial ?_
    refine orb_in hd hL hz hR (by omega) (fun O' A' v q1 q2 => ?_) r 0 (by omega) O A _ _ hb hJ rfl (zcn_I _)
    refine zW.go [15] rfl (by omega) trivial ?_
    exact orb_mid hd hL hz hR hQ m (p + 1) (by omega) O' A' _ _ _ q1 q2 rfl (by rw [zcn_I, iI_add]; rfl)
theorem orb_out {s : Nat} (hd : 3 ≤ d) (hL : ZL b R) (hz : zOK n r tn col st) (hR : zPR b I L n r tn col st) (hs : s < 10)
    (hQ : ∀ (O : Nat) (A : Nat → Bool), bts O A → (∀ p, p < 10 → (A p = true ↔ orbR (zG r tn) s p)) → Q (.inl (some (zi (iI (O : Int))))) (I, L, R)) :
    ∀ m t, t + m = 10 → ∀ (O : Nat) (A : Nat → Bool) (o y : Int32) (v w : Option zV), bts O A → A s = true → (∀ q, q < 10 → A q = true → orbR (zG r tn) s q) → (clF r tn A ∨ t + 1 ≤ ct A 10) → o = iI (O : Int) → y = iI (t : Int) → zW 35 d 0 0 6 [some (zr (some b)), some (zi (iI (s : Int))), some (zi o), some (zi y), v, w] [] (I, L, R) Q
  | 0, t, ht, O, A, o, y, v, w, hb, hA, h1, h2, e1, e2 => by
    subst e1; subst e2
    refine zW.gbt [] rfl rfl rfl (by omega) trivial (by simp (disch := omega) only [eq_self, not_true_eq_false, not_false_eq_true, upI_same, upL_same, upI_ne, upL_ne, iI_ixN, zI_mk, zL_mk, zP_mk, zK_mk, zN_mk, zwI_up, zwL_up, zg_some, Nat.reduceMod, Nat.reduceDiv, zcn_I, iI_add, iI_sub, iI_mul, iI_neg, iI_lt, iI_le, iI_eq, iI_lt0, iI_le0, iI_gt0, iI_ge0, iI_eq0] <;> omega) ?_
    refine zW.gr [] rfl rfl rfl (by omega) trivial trivial ?_
    have hc : clF r tn A := h2.elim (fun q => q) (fun q => by
      have := ct_le A 10
      omega)
    exact hQ O A hb (fun p hp => ⟨h1 p hp, clF_orb hz hs hA hc⟩)
  | m + 1, t, ht, O, A, o, y, v, w, hb, hA, h1, h2, e1, e2 => by
    subst e1; subst e2
    refine zW.gbf [] rfl rfl rfl (by omega) trivial (by simp (disch := omega) only [eq_self, not_true_eq_false, not_false_eq_true, upI_same, upL_same, upI_ne, upL_ne, iI_ixN, zI_mk, zL_mk, zP_mk, zK_mk, zN_mk, zwI_up, zwL_up, zg_some, Nat.reduceMod, Nat.reduceDiv, zcn_I, iI_add, iI_sub, iI_mul, iI_neg, iI_lt, iI_le, iI_eq, iI_lt0, iI_le0, iI_gt0, iI_ge0, iI_eq0] <;> omega) ?_
    refine zW.go [15] rfl (by omega) trivial ?_
    refine orb_mid (A0 := A) hd hL hz hR (fun O' A' v w q1 q2 => ?_) 10 0 rfl O A _ _ _ hb ⟨h1, fun q h => h, fun q hq => absurd hq (Nat.not_lt_zero q), fun _ i hi => absurd hi (Nat.not_lt_zero i), fun _ => rfl⟩ rfl (zcn_I _)
    refine zW.go [6] rfl (by omega) trivial ?_
    refine orb_out hd hL hz hR hs hQ m (t + 1) (by omega) O' A' _ _ _ _ q1 (q2.2.1 s hA) q2.1 ?_ rfl (by rw [zcn_I, iI_add]; rfl)
    rcases Classical.em (clF r tn A) with c | c
    · left
      rw [q2.2.2.2.2 c]
      exact c
    · right
      have h2' := h2.resolve_left c
      rcases Classical.em (∃ q i, q < 10 ∧ A q = true ∧ i < r ∧ A (tn (2 * i) q) = false) with g | g
      · obtain ⟨q, i, g1, g2, g3, g4⟩ := g
        have hlt := (ztn_pm hz (show 2 * i < 2 * r by omega)).1 q g1
        have := ct_lt (a := A) (b := A') (i := tn (2 * i) q) (n := 10) (fun k _ h => q2.2.1 k h) hlt g4 (q2.2.2.1 q g1 g2 i g3)
        omega
      · exact absurd (fun q hq ha i hi => by
          cases hc : A (tn (2 * i) q) with
          | true => rfl
          | false => exact absurd ⟨q, i, hq, ha, hi, hc⟩ g) c
theorem orbOf_ok {s : Nat} {y : Int32} (hd : 3 ≤ d) (hL : ZL b R) (hz : zOK n r tn col st) (hR : zPR b I L n r tn col st) (e : y = iI (s : Int)) (hs : s < 10)
    (hQ : ∀ (O : Nat) (A : Nat → Bool), bts O A → (∀ p, p < 10 → (A p = true ↔ orbR (zG r tn) s p)) → Q (.inl (some (zi (iI (O : Int))))) (I, L, R)) : zS 35 d [zr (some b), zi y] (I, L, R) Q := by
  subst e
  refine zW.go [6] rfl (by omega) trivial ?_
  have hor := bts_or bts_0 hs
  refine orb_out hd hL hz hR hs hQ 10 0 rfl (0 ||| 2 ^ s) (fuB (fun _ => false) s) _ _ _ _ hor (fuB_s _ _) (fun q hq h => ?_) (Or.inr ?_) ?_ (zcn_I _)
  · by_cases c : q = s
    · rw [c]
      exact orbR_rf (zG_is hz) s
    · rw [fuB_o c] at h
      cases h
  · exact ct_pos hs (fuB_s _ _)
  · rw [zcn_I, pw2i (by omega), Nat.zero_or]
end TORB
