/-! The seeker: isWithin, reaches, seek. -/
def fsm (g : Nat → Option (List Nat)) : Nat → Nat → Option (List Nat)
  | 0, _ => none
  | k + 1, a => match g a with
    | some w => some (a :: w)
    | none => fsm g k (a + 1)
/-- the first way of so many turns -/
noncomputable def srch (tn : Nat → Nat → Nat) (col : Nat → Nat) (m : Nat) : Nat → (Nat → Nat) → Option (List Nat)
  | 0, f => if dc (∀ p, p < 10 → f p = col p) then some [] else none
  | n + 1, f => fsm (fun a => srch tn col m n (fun p => f (tn a p))) m 0
/-- deeper and deeper: how many, and the way -/
def skF (g : Nat → Option (List Nat)) : Nat → Nat → Option (Nat × List Nat)
  | 0, _ => none
  | k + 1, n => match g n with
    | some w => some (n, w)
    | none => skF g k (n + 1)
theorem fsm_some {g : Nat → Option (List Nat)} : ∀ {k a : Nat} {w : List Nat}, fsm g k a = some w → ∃ b v, a ≤ b ∧ b < a + k ∧ g b = some v ∧ w = b :: v
  | 0, a, w, h => by cases h
  | k + 1, a, w, h => by
    have h : (match g a with | some w => some (a :: w) | none => fsm g k (a + 1)) = some w := h
    split at h
    · rename_i v e
      cases h
      exact ⟨a, v, Nat.le_refl _, by omega, e, rfl⟩
    · obtain ⟨b, v, h1, h2, h3, h4⟩ := fsm_some h
      exact ⟨b, v, by omega, by omega, h3, h4⟩
theorem srch_some {tn : Nat → Nat → Nat} {col : Nat → Nat} {m : Nat} : ∀ {n : Nat} {f : Nat → Nat} {w : List Nat}, srch tn col m n f = some w → w.length = n ∧ (∀ x, x ∈ w → x < m) ∧ ∀ p, p < 10 → saf tn f w p = col p
  | 0, f, w, h => by
    have h : (if dc (∀ p, p < 10 → f p = col p) then some [] else none) = some w := h
    split at h
    · rename_i q
      cases h
      exact ⟨rfl, (fun x q => by cases q), dc_t.mp q⟩
    · cases h
  | n + 1, f, w, h => by
    obtain ⟨b, v, h1, h2, h3, rfl⟩ := fsm_some (g := fun a => srch tn col m n (fun p => f (tn a p))) h
    obtain ⟨a1, a2, a3⟩ := srch_some h3
    refine ⟨by show v.length + 1 = _; rw [a1], fun x q => ?_, a3⟩
    rcases List.mem_cons.mp q with rfl | q
    · omega
    · exact a2 x q
section SEEK3
variable {d s b n r : Nat} {tn : Nat → Nat → Nat} {col st : Nat → Nat} {R : zRt} {Q : zO → zM → Prop}
theorem tn_fl (hz : zOK n r tn col st) {a : Nat} (ha : a < 2 * r) : fl a < 2 * r ∧ ∀ p, tn a (tn (fl a) p) = p := by
  have hr4 := hz.2.2.1
  have hf : ∀ a, a < 8 → fl a = if a % 2 = 0 then a + 1 else a - 1 := by decide
  rw [hf a (by omega)]
  have hinv := hz.2.2.2.2.1 (a / 2) (by omega)
  have hp := ztn_pm hz (show 2 * (a / 2) < 2 * r by omega)
  by_cases c : a % 2 = 0
  · rw [if_pos c]
    refine ⟨by omega, fun p => ?_⟩
    rw [show a + 1 = 2 * (a / 2) + 1 by omega, hinv]
    have e : tn a = tn (2 * (a / 2)) := by rw [show 2 * (a / 2) = a by omega]
    rw [e]
    exact vi_r hp p
  · rw [if_neg c]
    refine ⟨by omega, fun p => ?_⟩
    have e : tn a = vi 10 (tn (2 * (a / 2))) := by rw [← hinv, show 2 * (a / 2) + 1 = a by omega]
    rw [e, show a - 1 = 2 * (a / 2) by omega]
    exact vi_l hp p
theorem saf_app (tn : Nat → Nat → Nat) : ∀ (u v : List Nat) (f : Nat → Nat), saf tn f (u ++ v) = saf tn (saf tn f u) v
  | [], _, _ => rfl
  | t :: u, v, f => saf_app tn u v _
theorem saf_back (hz : zOK n r tn col st) : ∀ (w : List Nat) (f : Nat → Nat), (∀ x, x ∈ w → x < 2 * r) → saf tn (saf tn f w) (w.reverse.map fl) = f
  | [], f, _ => rfl
  | a :: w, f, h => by
    rw [List.reverse_cons, List.map_append, saf_app]
    show saf tn (saf tn (saf tn (fun p => f (tn a p)) w) (w.reverse.map fl)) [fl a] = f
    rw [saf_back hz w _ fun x q => h x (List.mem_cons_of_mem _ q)]
    funext p
    show f (tn a (tn (fl a) p)) = f p
    rw [(tn_fl hz (h a List.mem_cons_self)).2]
theorem zcol_rf (hz : zOK n r tn col st) : rf col := ⟨hz.2.2.2.2.2.2.1, fun p hp => hz.2.2.2.2.2.2.2.1 p (by have := hz.2.1; omega)⟩
/-- a row that isn't near has no way so short -/
theorem far_none (hz : zOK n r tn col st) {t : zCe} {gf : Nat → Nat → Nat} {gd : Nat → Nat} {gc k : Nat} {f : Nat → Nat} (hg : gOK tn r col t gf gd gc) (hf : rf f) (hk : k ≤ 3) (hno : ∀ i, i < gc → gf i = f → ¬ gd i ≤ k) : srch tn col (2 * r) k f = none := by
  cases h : srch tn col (2 * r) k f with
  | none => rfl
  | some w =>
    obtain ⟨h1, h2, h3⟩ := srch_some h
    have hsr := saf_rf (l := w) hf fun x q => ztn_pm hz (h2 x q)
    have e : saf tn f w = col := (Rw_rf hsr (zcol_rf hz)).mp (Rw_cg h3)
    have hb := saf_back hz w f h2
    rw [e] at hb
    obtain ⟨i, a1, a2, a3⟩ := gOK_word hg k hk (w.reverse.map fl) (by rw [List.length_map, List.length_reverse, h1]) fun x q => by
      obtain ⟨y, hy, rfl⟩ := List.mem_map.mp q
      exact (tn_fl hz (h2 y (List.mem_reverse.mp hy))).1
    rw [hb] at a2
    exact absurd a3 (hno i a1 a2)
theorem within_ok {I : Nat → Nat → Int32} {L : Nat → Nat → Int64} {t : zCe} {gf : Nat → Nat → Nat} {gd : Nat → Nat} {gc k : Nat} {f : Nat → Nat} {o : Int64} {x : Int32} (hd : 2 ≤ d) (hS : SL s R) (hz : zOK n r tn col st) (hR : ceR s I L t) (hg : gOK tn r col t gf gd gc) (hf : rf f) (hk : k ≤ 3) (e1 : o = Rw f) (e2 : x = iI (k : Int))
    (h1 : (k = 0 → f = col) → Q (.inl (some (zi (iI 1)))) (I, L, R)) (h0 : srch tn col (2 * r) k f = none → Q (.inl (some (zi (iI 0)))) (I, L, R)) : zS 77 d [zr (some s), zl o, zi x] (I, L, R) Q := by
  subst e1; subst e2
  have hS' := hS
  obtain ⟨k0, sp0, sp1, sp2, sp3, sp4, k1, k2, k3, k4, k5⟩ := hS'
  have hg' := hg
  obtain ⟨hT, b2, b3, b4, b5, b6⟩ := hg'
  refine zW.gz [] rfl rfl rfl (by omega) trivial ?_ rfl rfl (Nat.le_refl _) (Nat.le_refl _) ?_
  · exact ⟨_, rfl, k0⟩
  · refine cell_ok (by omega) hS hR (gaT_free hT) (fun j hj hp hstop => ?_)
    have hcl := cej_lt (Rw f) j
    generalize hc : cej (Rw f) j = c at hcl hstop ⊢
    rcases hstop with hn | ⟨e, he⟩
    · have r1 := (hR c hcl).1 hn
      refine zW.gbt [] rfl rfl rfl (by omega) ?_ ?_ (zW.gr [] rfl rfl rfl (by omega) trivial z01c0 ?_)
      · exact (by simp (disch := omega) only [true_or, or_true, eq_self, Option.some.injEq, Prod.mk.injEq, zall_0, zall_1, zall_2, zob_iff, zar_iff, zis_iff, zkIs_some, zkHas_some, iI_vp, z01_I, z01_bz, zch_I, true_and, and_true, or_false, false_or, and_self, upI_same, upL_same, upI_ne, upL_ne, iI_ixN, zI_mk, zL_mk, zP_mk, zK_mk, zN_mk, zwI_up, zwL_up, zg_some, Nat.reduceMod, Nat.reduceDiv, zcn_I, iI_add, iI_sub, iI_mul, iI_neg, iI_lt, iI_le, iI_eq, iI_lt0, iI_le0, iI_gt0, iI_ge0, iI_eq0, k0, sp1, k2] <;> omega)
      · exact (by simp (disch := omega) only [eq_self, not_true_eq_false, not_false_eq_true, upI_same, upL_same, upI_ne, upL_ne, iI_ixN, zI_mk, zL_mk, zP_mk, zK_mk, zN_mk, zwI_up, zwL_up, zg_some, Nat.reduceMod, Nat.reduceDiv, zcn_I, iI_add, iI_sub, iI_mul, iI_neg, iI_lt, iI_le, iI_eq, iI_lt0, iI_le0, iI_gt0, iI_ge0, iI_eq0, sp1, r1] <;> omega)
      · rw [zcn_I]
        refine h0 (far_none hz hg hf hk fun i hi q _ => ?_)
        obtain ⟨c', h3, h4⟩ := (hT.2.2.2.1 i hi).2.2
        rw [q] at h4
        obtain ⟨i', a1, a2, a3⟩ := hT.1 c' _ _ h3 h4
        rw [a2] at h4
        have := ce_uniq hp a3 h4 (Or.inl (by rw [hc]; exact hn))
        rw [← this, hc, hn] at h4
        cases h4
    · obtain ⟨q1, q2, q3⟩ := (hR c hcl).2 _ e he
      obtain ⟨i, a1, a2, a3⟩ := hT.2.2.2.2 c _ e hcl he
      have hfi := (Rw_rf hf (b5 i a1).1).mp a2
      refine zW.gbf [] rfl rfl rfl (by omega) ?_ ?_ (zW.gb [] rfl rfl rfl (by omega) ?_ (fun h => ?_) (fun h => ?_))
      · exact (by simp (disch := omega) only [true_or, or_true, eq_self, Option.some.injEq, Prod.mk.injEq, zall_0, zall_1, zall_2, zob_iff, zar_iff, zis_iff, zkIs_some, zkHas_some, iI_vp, z01_I, z01_bz, zch_I, true_and, and_true, or_false, false_or, and_self, upI_same, upL_same, upI_ne, upL_ne, iI_ixN, zI_mk, zL_mk, zP_mk, zK_mk, zN_mk, zwI_up, zwL_up, zg_some, Nat.reduceMod, Nat.reduceDiv, zcn_I, iI_add, iI_sub, iI_mul, iI_neg, iI_lt, iI_le, iI_eq, iI_lt0, iI_le0, iI_gt0, iI_ge0, iI_eq0, k0, sp1, k2] <;> omega)
      · exact (by simp (disch := omega) only [eq_self, not_true_eq_false, not_false_eq_true, upI_same, upL_same, upI_ne, upL_ne, iI_ixN, zI_mk, zL_mk, zP_mk, zK_mk, zN_mk, zwI_up, zwL_up, zg_some, Nat.reduceMod, Nat.reduceDiv, zcn_I, iI_add, iI_sub, iI_mul, iI_neg, iI_lt, iI_le, iI_eq, iI_lt0, iI_le0, iI_gt0, iI_ge0, iI_eq0, sp1, q1] <;> omega)
      · exact (by simp (disch := omega) only [true_or, or_true, eq_self, Option.some.injEq, Prod.mk.injEq, zall_0, zall_1, zall_2, zob_iff, zar_iff, zis_iff, zkIs_some, zkHas_some, iI_vp, z01_I, z01_bz, zch_I, true_and, and_true, or_false, false_or, and_self, upI_same, upL_same, upI_ne, upL_ne, iI_ixN, zI_mk, zL_mk, zP_mk, zK_mk, zN_mk, zwI_up, zwL_up, zg_some, Nat.reduceMod, Nat.reduceDiv, zcn_I, iI_add, iI_sub, iI_mul, iI_neg, iI_lt, iI_le, iI_eq, iI_lt0, iI_le0, iI_gt0, iI_ge0, iI_eq0, k0, sp1, k2] <;> omega)
      · simp (disch := omega) only [upI_same, upL_same, upI_ne, upL_ne, iI_ixN, zI_mk, zL_mk, zP_mk, zK_mk, zN_mk, zwI_up, zwL_up, zg_some, Nat.reduceMod, Nat.reduceDiv, zcn_I, iI_add, iI_sub, iI_mul, iI_neg, iI_lt, iI_le, iI_eq, iI_lt0, iI_le0, iI_gt0, iI_ge0, iI_eq0, sp1, q1] at h
        refine zW.gr [] rfl rfl rfl (by omega) trivial z01c0 ?_
        rw [zcn_I]
        refine h0 (far_none hz hg hf hk fun i' hi' q hle => ?_)
        obtain ⟨c', h3, h4⟩ := (hT.2.2.2.1 i' hi').2.2
        rw [q] at h4
        obtain ⟨i2, x1, x2, x3⟩ := hT.1 c' _ _ h3 h4
        rw [x2] at h4
        have := ce_uniq hp x3 h4 (Or.inr ⟨e, by rw [hc]; exact he⟩)
        rw [← this, hc, he] at h4
        cases h4
        omega
      · simp (disch := omega) only [upI_same, upL_same, upI_ne, upL_ne, iI_ixN, zI_mk, zL_mk, zP_mk, zK_mk, zN_mk, zwI_up, zwL_up, zg_some, Nat.reduceMod, Nat.reduceDiv, zcn_I, iI_add, iI_sub, iI_mul, iI_neg, iI_lt, iI_le, iI_eq, iI_lt0, iI_le0, iI_gt0, iI_ge0, iI_eq0, sp1, q1] at h
        refine zW.gr [] rfl rfl rfl (by omega) trivial z01c1 ?_
        rw [zcn_I]
        refine h1 fun hk0 => ?_
        have hi0 := (b5 i a1).2 (by omega)
        rw [hfi, hi0, b3]
/-- the way is written from here on -/
def wyf (s m : Nat) (I I' : Nat → Nat → Int32) : Prop := (∀ a, a ≠ s + 5 → I' a = I a) ∧ ∀ i, i < m → I' (s + 5) i = I (s + 5) i
theorem wyf_rf (s m : Nat) (I : Nat → Nat → Int32) : wyf s m I I := ⟨fun _ _ => rfl, fun _ _ => rfl⟩
theorem wyf_tr {s m : Nat} {I I1 I2 : Nat → Nat → Int32} (h1 : wyf s m I I1) (h2 : wyf s m I1 I2) : wyf s m I I2 := ⟨fun a q => (h2.1 a q).trans (h1.1 a q), fun i q => (h2.2 i q).trans (h1.2 i q)⟩
theorem wyf_le {s m k : Nat} {I I' : Nat → Nat → Int32} (h : k ≤ m) (f : wyf s m I I') : wyf s k I I' := ⟨f.1, fun i q => f.2 i (by omega)⟩
theorem ceR_wy {s m : Nat} {I I' : Nat → Nat → Int32} {L : Nat → Nat → Int64} {t : zCe} (f : wyf s m I I') (h : ceR s I L t) : ceR s I' L t := fun c hc => by
  have e := f.1 (s + 2) (by omega)
  rw [e]
  exact h c hc
theorem pz_wy {I I' : Nat → Nat → Int32} {L : Nat → Nat → Int64} {m : Nat} (hsb : s + 6 ≤ b) (f : wyf s m I I') (h : zPR b I L n r tn col st) : zPR b I' L n r tn col st := zPR_fr h (fun a q1 q2 => f.1 a (by omega)) (fun _ _ _ => rfl)
theorem reaches_ok {L : Nat → Nat → Int64} {t : zCe} {gf : Nat → Nat → Nat} {gd : Nat → Nat} {gc : Nat} (hS : SL s R) (hL : ZL b R) (hz : zOK n r tn col st) (hsb : s + 6 ≤ b) (hg : gOK tn r col t gf gd gc) :
    ∀ k d, k + 5 ≤ d → ∀ (m : Nat) (f : Nat → Nat) (o : Int64) (x y : Int32) (I : Nat → Nat → Int32) (Q : zO → zM → Prop), m + k ≤ 6 → rf f → ceR s I L t → zPR b I L n r tn col st → o = Rw f → x = iI (m : Int) → y = iI (k : Int) →
      (∀ w, srch tn col (2 * r) k f = some w → ∀ I', wyf s m I I' → (∀ i, i < k → I' (s + 5) (m + i) = iI (nth w i : Int)) → Q (.inl (some (zi (iI 1)))) (I', L, R)) →
      (srch tn col (2 * r) k f = none → ∀ I', wyf s m I I' → Q (.inl (some (zi (iI 0)))) (I', L, R)) →
      zS 76 d [zr (some s), zr (some b), zl o, zi x, zi y] (I, L, R) Q := by
  intro k
  induction k with
  | zero =>
    intro d hd m f o x y I Q hmk hf hc hR e1 e2 e3 h1 h0
    subst e1; subst e2; subst e3
    refine zW.gbf [] rfl rfl rfl (by omega) trivial ?_ (zW.gz [] rfl rfl rfl (by omega) trivial ?_ rfl rfl (Nat.le_refl _) (Nat.le_refl _) ?_)
    · exact (by simp (disch := omega) only [eq_self, not_true_eq_false, not_false_eq_true, upI_same, upL_same, upI_ne, upL_ne, iI_ixN, zI_mk, zL_mk, zP_mk, zK_mk, zN_mk, zwI_up, zwL_up, zg_some, Nat.reduceMod, Nat.reduceDiv, zcn_I, iI_add, iI_sub, iI_mul, iI_neg, iI_lt, iI_le, iI_eq, iI_lt0, iI_le0, iI_gt0, iI_ge0, iI_eq0] <;> omega)
    · exact ⟨_, rfl, hS.1⟩
    · refine within_ok (k := 0) (by omega) hS hz hc hg hf (by decide) rfl rfl (fun q => ?_) (fun q => ?_)
      · refine zW.gbt [] rfl rfl rfl (by omega) trivial ?_ (zW.gbf [] rfl rfl rfl (by omega) trivial ?_ (zW.gr [] rfl rfl rfl (by omega) trivial z01c1 ?_))
        · exact (by simp (disch := omega) only [eq_self, not_true_eq_false, not_false_eq_true, upI_same, upL_same, upI_ne, upL_ne, iI_ixN, zI_mk, zL_mk, zP_mk, zK_mk, zN_mk, zwI_up, zwL_up, zg_some, Nat.reduceMod, Nat.reduceDiv, zcn_I, iI_add, iI_sub, iI_mul, iI_neg, iI_lt, iI_le, iI_eq, iI_lt0, iI_le0, iI_gt0, iI_ge0, iI_eq0] <;> omega)
        · exact (by simp (disch := omega) only [eq_self, not_true_eq_false, not_false_eq_true, upI_same, upL_same, upI_ne, upL_ne, iI_ixN, zI_mk, zL_mk, zP_mk, zK_mk, zN_mk, zwI_up, zwL_up, zg_some, Nat.reduceMod, Nat.reduceDiv, zcn_I, iI_add, iI_sub, iI_mul, iI_neg, iI_lt, iI_le, iI_eq, iI_lt0, iI_le0, iI_gt0, iI_ge0, iI_eq0] <;> omega)
        · rw [zcn_I]
          refine h1 [] ?_ I (wyf_rf _ _ _) (fun i hi => absurd hi (Nat.not_lt_zero i))
          have : f = col := q rfl
          show (if dc (∀ p, p < 10 → f p = col p) then some [] else none) = some []
          rw [this, dc_t.mpr fun _ _ => rfl]
          rfl
      · refine zW.gbf [] rfl rfl rfl (by omega) trivial ?_ (zW.gr [] rfl rfl rfl (by omega) trivial z01c0 ?_)
        · exact (by simp (disch := omega) only [eq_self, not_true_eq_false, not_false_eq_true, upI_same, upL_same, upI_ne, upL_ne, iI_ixN, zI_mk, zL_mk, zP_mk, zK_mk, zN_mk, zwI_up, zwL_up, zg_some, Nat.reduceMod, Nat.reduceDiv, zcn_I, iI_add, iI_sub, iI_mul, iI_neg, iI_lt, iI_le, iI_eq, iI_lt0, iI_le0, iI_gt0, iI_ge0, iI_eq0] <;> omega)
        · rw [zcn_I]
          exact h0 q I (wyf_rf _ _ _)
  | succ k ih =>
    intro d hd m f o x y I Q hmk hf hc hR e1 e2 e3 h1 h0
    subst e1; subst e2; subst e3
    have hS' := hS
    obtain ⟨k0, sp0, sp1, sp2, sp3, sp4, k1, k2, k3, k4, k5⟩ := hS'
    have hL' := hL
    obtain ⟨z0, p1, zp2, zp3, zk1, zC, zGG⟩ := hL'
    have hr4 := hz.2.2.1
    -- the turns, one behind another
    have lp : ∀ j a, a + j = 2 * r → ∀ (I1 : Nat → Nat → Int32) (u : Int32), wyf s m I I1 → srch tn col (2 * r) (k + 1) f = fsm (fun a => srch tn col (2 * r) k (fun p => f (tn a p))) j a → u = iI (a : Int) →
        zW 76 d 0 0 42 [some (zr (some s)), some (zr (some b)), some (zl (Rw f)), none, some (zi (iI (m : Int))), some (zi (iI ((k + 1 : Nat) : Int))), some (zi u)] [] (I1, L, R) Q := by
      intro j
      induction j with
      | zero =>
        intro a ha I1 u fr hs e
        subst e
        obtain rfl : a = 2 * r := by omega
        have r2 := (pz_wy hsb fr hR).2.1
        refine zW.gbt [] rfl rfl rfl (by omega) ?_ ?_ (zW.gr [] rfl rfl rfl (by omega) trivial z01c0 ?_)
        · exact (by simp (disch := omega) only [true_or, or_true, eq_self, Option.some.injEq, Prod.mk.injEq, zall_0, zall_1, zall_2, zob_iff, zar_iff, zis_iff, zkIs_some, zkHas_some, iI_vp, z01_I, z01_bz, zch_I, true_and, and_true, or_false, false_or, and_self, upI_same, upL_same, upI_ne, upL_ne, iI_ixN, zI_mk, zL_mk, zP_mk, zK_mk, zN_mk, zwI_up, zwL_up, zg_some, Nat.reduceMod, Nat.reduceDiv, zcn_I, iI_add, iI_sub, iI_mul, iI_neg, iI_lt, iI_le, iI_eq, iI_lt0, iI_le0, iI_gt0, iI_ge0, iI_eq0, z0] <;> omega)
        · exact (by simp (disch := omega) only [eq_self, not_true_eq_false, not_false_eq_true, upI_same, upL_same, upI_ne, upL_ne, iI_ixN, zI_mk, zL_mk, zP_mk, zK_mk, zN_mk, zwI_up, zwL_up, zg_some, Nat.reduceMod, Nat.reduceDiv, zcn_I, iI_add, iI_sub, iI_mul, iI_neg, iI_lt, iI_le, iI_eq, iI_lt0, iI_le0, iI_gt0, iI_ge0, iI_eq0, r2] <;> omega)
        · rw [zcn_I]
          exact h0 hs I1 fr
      | succ j ihj =>
        intro a ha I1 u fr hs e
        subst e
        have hR1 := pz_wy hsb fr hR
        have r2 := hR1.2.1
        have har := hR1.2.2.2.2.1 a (by omega)
        have hp := ztn_pm hz (show a < 2 * r by omega)
        have hs' : srch tn col (2 * r) (k + 1) f = (match srch tn col (2 * r) k (fun p => f (tn a p)) with | some w => some (a :: w) | none => fsm (fun a => srch tn col (2 * r) k (fun p => f (tn a p))) j (a + 1)) := hs
        have e5 : (m : Int) + 1 = ((m + 1 : Nat) : Int) := by omega
        have e6 : ((k + 1 : Nat) : Int) - 1 = (k : Int) := by omega
        have fr2 : wyf s m I (upI I1 (s + 5) m (iI (a : Int))) := wyf_tr fr ⟨fun a' q => upI_row q, fun i q => upI_ne (by omega)⟩
        refine zW.gbf [] rfl rfl rfl (by omega) ?_ ?_ (zW.gbf [] rfl rfl rfl (by omega) trivial ?_ (zW.gz [] rfl rfl rfl (by omega) ?_ trivial rfl rfl (Nat.le_refl _) (Nat.le_refl _) ?_))
        · exact (by simp (disch := omega) only [true_or, or_true, eq_self, Option.some.injEq, Prod.mk.injEq, zall_0, zall_1, zall_2, zob_iff, zar_iff, zis_iff, zkIs_some, zkHas_some, iI_vp, z01_I, z01_bz, zch_I, true_and, and_true, or_false, false_or, and_self, upI_same, upL_same, upI_ne, upL_ne, iI_ixN, zI_mk, zL_mk, zP_mk, zK_mk, zN_mk, zwI_up, zwL_up, zg_some, Nat.reduceMod, Nat.reduceDiv, zcn_I, iI_add, iI_sub, iI_mul, iI_neg, iI_lt, iI_le, iI_eq, iI_lt0, iI_le0, iI_gt0, iI_ge0, iI_eq0, z0] <;> omega)
        · exact (by simp (disch := omega) only [eq_self, not_true_eq_false, not_false_eq_true, upI_same, upL_same, upI_ne, upL_ne, iI_ixN, zI_mk, zL_mk, zP_mk, zK_mk, zN_mk, zwI_up, zwL_up, zg_some, Nat.reduceMod, Nat.reduceDiv, zcn_I, iI_add, iI_sub, iI_mul, iI_neg, iI_lt, iI_le, iI_eq, iI_lt0, iI_le0, iI_gt0, iI_ge0, iI_eq0, r2] <;> omega)
        · exact (by simp (disch := omega) only [eq_self, not_true_eq_false, not_false_eq_true, upI_same, upL_same, upI_ne, upL_ne, iI_ixN, zI_mk, zL_mk, zP_mk, zK_mk, zN_mk, zwI_up, zwL_up, zg_some, Nat.reduceMod, Nat.reduceDiv, zcn_I, iI_add, iI_sub, iI_mul, iI_neg, iI_lt, iI_le, iI_eq, iI_lt0, iI_le0, iI_gt0, iI_ge0, iI_eq0] <;> omega)
        · simp (disch := omega) only [upI_same, upL_same, upI_ne, upL_ne, iI_ixN, zI_mk, zL_mk, zP_mk, zK_mk, zN_mk, zwI_up, zwL_up, zg_some, Nat.reduceMod, Nat.reduceDiv, zcn_I, iI_add, iI_sub, iI_mul, iI_neg, iI_lt, iI_le, iI_eq, iI_lt0, iI_le0, iI_gt0, iI_ge0, iI_eq0, sp4, p1]
          exact (by simp (disch := omega) only [true_or, or_true, eq_self, Option.some.injEq, Prod.mk.injEq, zall_0, zall_1, zall_2, zob_iff, zar_iff, zis_iff, zkIs_some, zkHas_some, iI_vp, z01_I, z01_bz, zch_I, true_and, and_true, or_false, false_or, and_self, upI_same, upL_same, upI_ne, upL_ne, iI_ixN, zI_mk, zL_mk, zP_mk, zK_mk, zN_mk, zwI_up, zwL_up, zg_some, Nat.reduceMod, Nat.reduceDiv, zcn_I, iI_add, iI_sub, iI_mul, iI_neg, iI_lt, iI_le, iI_eq, iI_lt0, iI_le0, iI_gt0, iI_ge0, iI_eq0, k0, sp4, k5, z0, p1, zk1] <;> omega)
        · simp (disch := omega) only [upI_same, upL_same, upI_ne, upL_ne, iI_ixN, zI_mk, zL_mk, zP_mk, zK_mk, zN_mk, zwI_up, zwL_up, zg_some, Nat.reduceMod, Nat.reduceDiv, zcn_I, iI_add, iI_sub, iI_mul, iI_neg, iI_lt, iI_le, iI_eq, iI_lt0, iI_le0, iI_gt0, iI_ge0, iI_eq0, sp4, p1, har]
          refine through_ok (f := f) (g := tn a) (by omega) (rf_nb hf) hp.1 rfl rfl ?_
          refine zW.gz [] rfl rfl rfl (by omega) trivial trivial rfl rfl (Nat.le_refl _) (Nat.le_refl _) ?_
          simp only [zcn_I, iI_add, iI_sub, e5, e6]
          refine ih (d - 1) (by omega) (m + 1) (fun p => f (tn a p)) _ _ _ _ _ (by omega) (rf_comp hf hp) (ceR_wy fr2 hc) (pz_wy hsb fr2 hR) rfl rfl rfl (fun w hw I2 f2 v2 => ?_) (fun hw I2 f2 => ?_)
          · refine zW.gbf [] rfl rfl rfl (by omega) trivial ?_ (zW.gr [] rfl rfl rfl (by omega) trivial z01c1 ?_)
            · exact (by simp (disch := omega) only [eq_self, not_true_eq_false, not_false_eq_true, upI_same, upL_same, upI_ne, upL_ne, iI_ixN, zI_mk, zL_mk, zP_mk, zK_mk, zN_mk, zwI_up, zwL_up, zg_some, Nat.reduceMod, Nat.reduceDiv, zcn_I, iI_add, iI_sub, iI_mul, iI_neg, iI_lt, iI_le, iI_eq, iI_lt0, iI_le0, iI_gt0, iI_ge0, iI_eq0] <;> omega)
            · rw [zcn_I]
              rw [hw] at hs'
              refine h1 (a :: w) hs' I2 (wyf_tr fr2 (wyf_le (by omega) f2)) (fun i hi => ?_)
              cases i with
              | zero =>
                show I2 (s + 5) m = _
                rw [f2.2 m (by omega), upI_same]
                rfl
              | succ i =>
                rw [show m + (i + 1) = m + 1 + i by omega, v2 i (by omega)]
                rfl
          · refine zW.gbt [] rfl rfl rfl (by omega) trivial ?_ (zW.go [42] rfl (by omega) trivial ?_)
            · exact (by simp (disch := omega) only [eq_self, not_true_eq_false, not_false_eq_true, upI_same, upL_same, upI_ne, upL_ne, iI_ixN, zI_mk, zL_mk, zP_mk, zK_mk, zN_mk, zwI_up, zwL_up, zg_some, Nat.reduceMod, Nat.reduceDiv, zcn_I, iI_add, iI_sub, iI_mul, iI_neg, iI_lt, iI_le, iI_eq, iI_lt0, iI_le0, iI_gt0, iI_ge0, iI_eq0] <;> omega)
            · rw [hw] at hs'
              refine ihj (a + 1) (by omega) I2 _ (wyf_tr fr2 (wyf_le (by omega) f2)) hs' ?_
              exact (by simp (disch := omega) only [eq_self, not_true_eq_false, not_false_eq_true, upI_same, upL_same, upI_ne, upL_ne, iI_ixN, zI_mk, zL_mk, zP_mk, zK_mk, zN_mk, zwI_up, zwL_up, zg_some, Nat.reduceMod, Nat.reduceDiv, zcn_I, iI_add, iI_sub, iI_mul, iI_neg, iI_lt, iI_le, iI_eq, iI_lt0, iI_le0, iI_gt0, iI_ge0, iI_eq0] <;> omega)
    have main : zW 76 d 0 0 18 [some (zr (some s)), some (zr (some b)), some (zl (Rw f)), none, some (zi (iI (m : Int))), some (zi (iI ((k + 1 : Nat) : Int))), none] [] (I, L, R) Q := by
      refine zW.gbt [] rfl rfl rfl (by omega) trivial ?_ (zW.gbf [] rfl rfl rfl (by omega) trivial ?_ (zW.gbt [] rfl rfl rfl (by omega) trivial ?_ (zW.go [42] rfl (by omega) trivial ?_)))
      · exact (by simp (disch := omega) only [eq_self, not_true_eq_false, not_false_eq_true, upI_same, upL_same, upI_ne, upL_ne, iI_ixN, zI_mk, zL_mk, zP_mk, zK_mk, zN_mk, zwI_up, zwL_up, zg_some, Nat.reduceMod, Nat.reduceDiv, zcn_I, iI_add, iI_sub, iI_mul, iI_neg, iI_lt, iI_le, iI_eq, iI_lt0, iI_le0, iI_gt0, iI_ge0, iI_eq0] <;> omega)
      · exact (by simp (disch := omega) only [eq_self, not_true_eq_false, not_false_eq_true, upI_same, upL_same, upI_ne, upL_ne, iI_ixN, zI_mk, zL_mk, zP_mk, zK_mk, zN_mk, zwI_up, zwL_up, zg_some, Nat.reduceMod, Nat.reduceDiv, zcn_I, iI_add, iI_sub, iI_mul, iI_neg, iI_lt, iI_le, iI_eq, iI_lt0, iI_le0, iI_gt0, iI_ge0, iI_eq0] <;> omega)
      · exact (by simp (disch := omega) only [eq_self, not_true_eq_false, not_false_eq_true, upI_same, upL_same, upI_ne, upL_ne, iI_ixN, zI_mk, zL_mk, zP_mk, zK_mk, zN_mk, zwI_up, zwL_up, zg_some, Nat.reduceMod, Nat.reduceDiv, zcn_I, iI_add, iI_sub, iI_mul, iI_neg, iI_lt, iI_le, iI_eq, iI_lt0, iI_le0, iI_gt0, iI_ge0, iI_eq0] <;> omega)
      · exact lp (2 * r) 0 (by omega) I _ (wyf_rf _ _ _) rfl rfl
    by_cases h3 : k + 1 ≤ 3
    · refine zW.gbf [] rfl rfl rfl (by omega) trivial ?_ (zW.gz [] rfl rfl rfl (by omega) trivial ?_ rfl rfl (Nat.le_refl _) (Nat.le_refl _) ?_)
      · exact (by simp (disch := omega) only [eq_self, not_true_eq_false, not_false_eq_true, upI_same, upL_same, upI_ne, upL_ne, iI_ixN, zI_mk, zL_mk, zP_mk, zK_mk, zN_mk, zwI_up, zwL_up, zg_some, Nat.reduceMod, Nat.reduceDiv, zcn_I, iI_add, iI_sub, iI_mul, iI_neg, iI_lt, iI_le, iI_eq, iI_lt0, iI_le0, iI_gt0, iI_ge0, iI_eq0] <;> omega)
      · exact ⟨_, rfl, k0⟩
      · refine within_ok (k := k + 1) (by omega) hS hz hc hg hf h3 rfl rfl (fun _ => ?_) (fun q => ?_)
        · refine zW.gbt [] rfl rfl rfl (by omega) trivial ?_ main
          exact (by simp (disch := omega) only [eq_self, not_true_eq_false, not_false_eq_true, upI_same, upL_same, upI_ne, upL_ne, iI_ixN, zI_mk, zL_mk, zP_mk, zK_mk, zN_mk, zwI_up, zwL_up, zg_some, Nat.reduceMod, Nat.reduceDiv, zcn_I, iI_add, iI_sub, iI_mul, iI_neg, iI_lt, iI_le, iI_eq, iI_lt0, iI_le0, iI_gt0, iI_ge0, iI_eq0] <;> omega)
        · refine zW.gbf [] rfl rfl rfl (by omega) trivial ?_ (zW.gr [] rfl rfl rfl (by omega) trivial z01c0 ?_)
          · exact (by simp (disch := omega) only [eq_self, not_true_eq_false, not_false_eq_true, upI_same, upL_same, upI_ne, upL_ne, iI_ixN, zI_mk, zL_mk, zP_mk, zK_mk, zN_mk, zwI_up, zwL_up, zg_some, Nat.reduceMod, Nat.reduceDiv, zcn_I, iI_add, iI_sub, iI_mul, iI_neg, iI_lt, iI_le, iI_eq, iI_lt0, iI_le0, iI_gt0, iI_ge0, iI_eq0] <;> omega)
          · rw [zcn_I]
            exact h0 q I (wyf_rf _ _ _)
    · refine zW.gbt [] rfl rfl rfl (by omega) trivial ?_ main
      exact (by simp (disch := omega) only [eq_self, not_true_eq_false, not_false_eq_true, upI_same, upL_same, upI_ne, upL_ne, iI_ixN, zI_mk, zL_mk, zP_mk, zK_mk, zN_mk, zwI_up, zwL_up, zg_some, Nat.reduceMod, Nat.reduceDiv, zcn_I, iI_add, iI_sub, iI_mul, iI_neg, iI_lt, iI_le, iI_eq, iI_lt0, iI_le0, iI_gt0, iI_ge0, iI_eq0] <;> omega)
end SEEK3
