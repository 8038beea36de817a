/-! The seeker: gathering. -/
def rf (f : Nat → Nat) : Prop := (∀ p, p < 10 → f p < 10) ∧ ∀ p, 10 ≤ p → f p = p
theorem rf_nb {f : Nat → Nat} (h : rf f) : nb f := fun p hp => Nat.lt_trans (h.1 p hp) (by decide)
theorem rf_comp {f g : Nat → Nat} (hf : rf f) (hg : pm 10 g) : rf (fun p => f (g p)) := ⟨fun p hp => hf.1 _ (hg.1 p hp), fun p hp => by
  show f (g p) = p
  rw [hg.2.2 p hp, hf.2 p hp]⟩
theorem Rw_rf {f g : Nat → Nat} (hf : rf f) (hg : rf g) : Rw f = Rw g ↔ f = g := ⟨fun h => funext fun p => by
    by_cases hp : p < 10
    · exact Rw_inj (rf_nb hf) (rf_nb hg) h p hp
    · rw [hf.2 p (by omega), hg.2 p (by omega)], fun h => by rw [h]⟩
theorem saf_rf {tn : Nat → Nat → Nat} : ∀ {l : List Nat} {f : Nat → Nat}, rf f → (∀ t, t ∈ l → pm 10 (tn t)) → rf (saf tn f l)
  | [], _, h, _ => h
  | t :: l, f, h, k => saf_rf (l := l) (f := fun p => f (tn t p)) (rf_comp h (k t List.mem_cons_self)) fun t' h' => k t' (List.mem_cons_of_mem _ h')
/-- while rows are gathered: entry i, its turn a -/
def gJ (tn : Nat → Nat → Nat) (r : Nat) (col : Nat → Nat) (t : zCe) (gf : Nat → Nat → Nat) (gd : Nat → Nat) (gc i a : Nat) : Prop :=
  gaT t gf gd gc ∧ 1 ≤ gc ∧ gf 0 = col ∧ gd 0 = 0 ∧ (∀ j, j < gc → rf (gf j) ∧ (gd j = 0 → j = 0) ∧ (gd j = 1 → j ≤ 8) ∧ (gd j = 2 → j ≤ 72)) ∧ (∀ j k, j < k → k < gc → gd j ≤ gd k) ∧ gc ≤ 1 + 8 * i + a ∧ (∀ j x, j < i → j < gc → x < 2 * r → ∃ k, k < gc ∧ gf k = (fun p => gf j (tn x p)) ∧ gd k ≤ gd j + 1) ∧ ∀ x, i < gc → x < a → ∃ k, k < gc ∧ gf k = (fun p => gf i (tn x p)) ∧ gd k ≤ gd i + 1
/-- gathered: three turns around -/
def gOK (tn : Nat → Nat → Nat) (r : Nat) (col : Nat → Nat) (t : zCe) (gf : Nat → Nat → Nat) (gd : Nat → Nat) (gc : Nat) : Prop :=
  gaT t gf gd gc ∧ 1 ≤ gc ∧ gf 0 = col ∧ gd 0 = 0 ∧ (∀ j, j < gc → rf (gf j) ∧ (gd j = 0 → j = 0)) ∧ ∀ j x, j < gc → gd j < 3 → x < 2 * r → ∃ k, k < gc ∧ gf k = (fun p => gf j (tn x p)) ∧ gd k ≤ gd j + 1
theorem gOK_word {tn : Nat → Nat → Nat} {r : Nat} {col : Nat → Nat} {t : zCe} {gf : Nat → Nat → Nat} {gd : Nat → Nat} {gc : Nat} (h : gOK tn r col t gf gd gc) : ∀ n, n ≤ 3 → ∀ w : List Nat, w.length = n → (∀ x, x ∈ w → x < 2 * r) → ∃ k, k < gc ∧ gf k = saf tn col w ∧ gd k ≤ n
  | 0, _, w, hw, _ => by
    have : w = [] := List.length_eq_zero_iff.mp hw
    subst this
    obtain ⟨h1, h2, h3, h4, h5, h6⟩ := h
    exact ⟨0, by omega, h3, by omega⟩
  | n + 1, hn, w, hw, hx => by
    have e : w = w.take n ++ [nth w n] := by
      rw [← take_snoc (by omega), List.take_of_length_le (by omega)]
    obtain ⟨k, h1, h2, h3⟩ := gOK_word h n (by omega) (w.take n) (by rw [List.length_take]; omega) fun x q => hx x (List.mem_of_mem_take q)
    obtain ⟨k', a1, a2, a3⟩ := h.2.2.2.2.2 k (nth w n) h1 (by omega) (hx _ (nth_mem (by omega)))
    refine ⟨k', a1, ?_, by omega⟩
    rw [a2, h2, e, saf_snoc, ← e]
section GATH
variable {d s b n r : Nat} {tn : Nat → Nat → Nat} {col st : Nat → Nat} {R : zRt} {Q : zO → zM → Prop}
theorem sfr_pz {I I' : Nat → Nat → Int32} {L L' : Nat → Nat → Int64} (hsb : s + 6 ≤ b) (f : sfr s I L I' L') (h : zPR b I L n r tn col st) : zPR b I' L' n r tn col st := zPR_fr h (fun a q1 q2 => f.1 a (by omega)) (fun a q1 q2 => f.2 a (by omega))
theorem gat_in {I0 : Nat → Nat → Int32} {L0 : Nat → Nat → Int64} {i : Nat} (hd : 3 ≤ d) (hS : SL s R) (hL : ZL b R) (hz : zOK n r tn col st) (hsb : s + 6 ≤ b) (hR0 : zPR b I0 L0 n r tn col st)
    (hQ : ∀ I' L' t gf gd gc, sfr s I0 L0 I' L' → ceR s I' L' t → gaR s I' L' gf gd gc → gJ tn r col t gf gd gc (i + 1) 0 → (∀ j, j < gc → gd j ≤ gd i + 1) → i + 1 ≤ gc → ∀ v, zW 78 d 0 0 24 [some (zr (some s)), some (zr (some b)), some (zi (iI ((i + 1 : Nat) : Int))), v] [] (I', L', R) Q) :
    ∀ m a, a + m = 2 * r → ∀ (I : Nat → Nat → Int32) (L : Nat → Nat → Int64) (t : zCe) (gf : Nat → Nat → Nat) (gd : Nat → Nat) (gc : Nat) (x : Int32), sfr s I0 L0 I L → ceR s I L t → gaR s I L gf gd gc → gJ tn r col t gf gd gc i a → i < gc → gd i < 3 → (∀ j, j < gc → gd j ≤ gd i + 1) → x = iI (a : Int) →
      zW 78 d 0 0 51 [some (zr (some s)), some (zr (some b)), some (zi (iI (i : Int))), some (zi x)] [] (I, L, R) Q
  | 0, a, ha, I, L, t, gf, gd, gc, x, f, c1, c2, j1, hi, hg3, hu, e => by
    subst e
    obtain rfl : a = 2 * r := by omega
    have z0 := hL.1
    have hr4 := hz.2.2.1
    have hR := sfr_pz hsb f hR0
    have r2 := hR.2.1
    obtain ⟨b1, b2, b3, b4, b5, b6, b7, b9, b10⟩ := j1
    refine zW.gbt [] rfl rfl rfl (by omega) ?_ ?_ (zW.go [24] rfl (by omega) trivial ?_)
    · exact (by simp (disch := omega) only [true_or, or_true, eq_self, Option.some.injEq, Prod.mk.injEq, zall_0, zall_1, zall_2, zob_iff, zar_iff, zis_iff, zkIs_some, zkHas_some, iI_vp, z01_I, z01_bz, zch_I, true_and, and_true, or_false, false_or, and_self, upI_same, upL_same, upI_ne, upL_ne, iI_ixN, zI_mk, zL_mk, zP_mk, zK_mk, zN_mk, zwI_up, zwL_up, zg_some, Nat.reduceMod, Nat.reduceDiv, zcn_I, iI_add, iI_sub, iI_mul, iI_neg, iI_lt, iI_le, iI_eq, iI_lt0, iI_le0, iI_gt0, iI_ge0, iI_eq0, z0] <;> omega)
    · exact (by simp (disch := omega) only [eq_self, not_true_eq_false, not_false_eq_true, upI_same, upL_same, upI_ne, upL_ne, iI_ixN, zI_mk, zL_mk, zP_mk, zK_mk, zN_mk, zwI_up, zwL_up, zg_some, Nat.reduceMod, Nat.reduceDiv, zcn_I, iI_add, iI_sub, iI_mul, iI_neg, iI_lt, iI_le, iI_eq, iI_lt0, iI_le0, iI_gt0, iI_ge0, iI_eq0, r2] <;> omega)
    · have e : iI (i : Int) + zcn 1 = iI ((i + 1 : Nat) : Int) := by
        rw [zcn_I, iI_add]
        rfl
      rw [e]
      refine hQ I L t gf gd gc f c1 c2 ⟨b1, b2, b3, b4, b5, b6, by omega, fun j x hj hjc hx => ?_, fun x _ h => absurd h (Nat.not_lt_zero x)⟩ hu hi _
      by_cases c : j = i
      · rw [c]
        exact b10 x hi hx
      · exact b9 j x (by omega) hjc hx
  | m + 1, a, ha, I, L, t, gf, gd, gc, x, f, c1, c2, j1, hi, hg3, hu, e => by
    subst e
    obtain ⟨z0, p1, zp2, zp3, zk1, zC, zGG⟩ := hL
    have hr4 := hz.2.2.1
    have hR := sfr_pz hsb f hR0
    have r2 := hR.2.1
    have har := hR.2.2.2.2.1 a (by omega)
    have hS' := hS
    obtain ⟨k0, sp0, sp1, sp2, sp3, sp4, k1, k2, k3, k4, k5⟩ := hS'
    have j1' := j1
    obtain ⟨b1, b2, b3, b4, b5, b6, b7, b9, b10⟩ := j1'
    obtain ⟨y1, y2⟩ := c2.2 i hi
    have hgcm := b1.2.1
    have hp := ztn_pm hz (show a < 2 * r by omega)
    have hrf := (b5 i hi).1
    have hb5 := b5 i hi
    have hi72 : i ≤ 72 := by omega
    refine zW.gbf [] rfl rfl rfl (by omega) ?_ ?_ (zW.gbf [] rfl rfl rfl (by omega) trivial ?_ (zW.gz [] rfl rfl rfl (by omega) ?_ trivial rfl rfl (Nat.le_refl _) (Nat.le_refl _) ?_))
    · exact (by simp (disch := omega) only [true_or, or_true, eq_self, Option.some.injEq, Prod.mk.injEq, zall_0, zall_1, zall_2, zob_iff, zar_iff, zis_iff, zkIs_some, zkHas_some, iI_vp, z01_I, z01_bz, zch_I, true_and, and_true, or_false, false_or, and_self, upI_same, upL_same, upI_ne, upL_ne, iI_ixN, zI_mk, zL_mk, zP_mk, zK_mk, zN_mk, zwI_up, zwL_up, zg_some, Nat.reduceMod, Nat.reduceDiv, zcn_I, iI_add, iI_sub, iI_mul, iI_neg, iI_lt, iI_le, iI_eq, iI_lt0, iI_le0, iI_gt0, iI_ge0, iI_eq0, z0] <;> omega)
    · exact (by simp (disch := omega) only [eq_self, not_true_eq_false, not_false_eq_true, upI_same, upL_same, upI_ne, upL_ne, iI_ixN, zI_mk, zL_mk, zP_mk, zK_mk, zN_mk, zwI_up, zwL_up, zg_some, Nat.reduceMod, Nat.reduceDiv, zcn_I, iI_add, iI_sub, iI_mul, iI_neg, iI_lt, iI_le, iI_eq, iI_lt0, iI_le0, iI_gt0, iI_ge0, iI_eq0, r2] <;> omega)
    · exact (by simp (disch := omega) only [eq_self, not_true_eq_false, not_false_eq_true, upI_same, upL_same, upI_ne, upL_ne, iI_ixN, zI_mk, zL_mk, zP_mk, zK_mk, zN_mk, zwI_up, zwL_up, zg_some, Nat.reduceMod, Nat.reduceDiv, zcn_I, iI_add, iI_sub, iI_mul, iI_neg, iI_lt, iI_le, iI_eq, iI_lt0, iI_le0, iI_gt0, iI_ge0, iI_eq0] <;> omega)
    · simp (disch := omega) only [upI_same, upL_same, upI_ne, upL_ne, iI_ixN, zI_mk, zL_mk, zP_mk, zK_mk, zN_mk, zwI_up, zwL_up, zg_some, Nat.reduceMod, Nat.reduceDiv, zcn_I, iI_add, iI_sub, iI_mul, iI_neg, iI_lt, iI_le, iI_eq, iI_lt0, iI_le0, iI_gt0, iI_ge0, iI_eq0, sp2, p1]
      exact (by simp (disch := omega) only [true_or, or_true, eq_self, Option.some.injEq, Prod.mk.injEq, zall_0, zall_1, zall_2, zob_iff, zar_iff, zis_iff, zkIs_some, zkHas_some, iI_vp, z01_I, z01_bz, zch_I, true_and, and_true, or_false, false_or, and_self, upI_same, upL_same, upI_ne, upL_ne, iI_ixN, zI_mk, zL_mk, zP_mk, zK_mk, zN_mk, zwI_up, zwL_up, zg_some, Nat.reduceMod, Nat.reduceDiv, zcn_I, iI_add, iI_sub, iI_mul, iI_neg, iI_lt, iI_le, iI_eq, iI_lt0, iI_le0, iI_gt0, iI_ge0, iI_eq0, k0, sp2, k3, z0, p1, zk1] <;> omega)
    · simp (disch := omega) only [upI_same, upL_same, upI_ne, upL_ne, iI_ixN, zI_mk, zL_mk, zP_mk, zK_mk, zN_mk, zwI_up, zwL_up, zg_some, Nat.reduceMod, Nat.reduceDiv, zcn_I, iI_add, iI_sub, iI_mul, iI_neg, iI_lt, iI_le, iI_eq, iI_lt0, iI_le0, iI_gt0, iI_ge0, iI_eq0, sp2, p1, y1, har]
      refine through_ok (f := gf i) (g := tn a) (by omega) (rf_nb hrf) hp.1 rfl rfl ?_
      refine zW.gz [] rfl rfl rfl (by omega) ?_ ?_ rfl rfl (Nat.le_refl _) (Nat.le_refl _) ?_
      · simp (disch := omega) only [upI_same, upL_same, upI_ne, upL_ne, iI_ixN, zI_mk, zL_mk, zP_mk, zK_mk, zN_mk, zwI_up, zwL_up, zg_some, Nat.reduceMod, Nat.reduceDiv, zcn_I, iI_add, iI_sub, iI_mul, iI_neg, iI_lt, iI_le, iI_eq, iI_lt0, iI_le0, iI_gt0, iI_ge0, iI_eq0, sp3]
        exact (by simp (disch := omega) only [true_or, or_true, eq_self, Option.some.injEq, Prod.mk.injEq, zall_0, zall_1, zall_2, zob_iff, zar_iff, zis_iff, zkIs_some, zkHas_some, iI_vp, z01_I, z01_bz, zch_I, true_and, and_true, or_false, false_or, and_self, upI_same, upL_same, upI_ne, upL_ne, iI_ixN, zI_mk, zL_mk, zP_mk, zK_mk, zN_mk, zwI_up, zwL_up, zg_some, Nat.reduceMod, Nat.reduceDiv, zcn_I, iI_add, iI_sub, iI_mul, iI_neg, iI_lt, iI_le, iI_eq, iI_lt0, iI_le0, iI_gt0, iI_ge0, iI_eq0, k0, sp3, k4] <;> omega)
      · exact ⟨_, rfl, k0⟩
      · simp (disch := omega) only [upI_same, upL_same, upI_ne, upL_ne, iI_ixN, zI_mk, zL_mk, zP_mk, zK_mk, zN_mk, zwI_up, zwL_up, zg_some, Nat.reduceMod, Nat.reduceDiv, zcn_I, iI_add, iI_sub, iI_mul, iI_neg, iI_lt, iI_le, iI_eq, iI_lt0, iI_le0, iI_gt0, iI_ge0, iI_eq0, sp3, y2]
        refine take_r (t := t) (gf := gf) (gd := gd) (gc := gc) (f := fun p => gf i (tn a p)) (v := gd i + 1) (by omega) hS c1 c2 b1 rfl ?_ (rf_nb (rf_comp hrf hp)) (by omega) (by omega) (fun j hj q => ?_) (fun hnew I' L' t' f' c1' c2' hT' => ?_)
        · exact (by simp (disch := omega) only [eq_self, not_true_eq_false, not_false_eq_true, upI_same, upL_same, upI_ne, upL_ne, iI_ixN, zI_mk, zL_mk, zP_mk, zK_mk, zN_mk, zwI_up, zwL_up, zg_some, Nat.reduceMod, Nat.reduceDiv, zcn_I, iI_add, iI_sub, iI_mul, iI_neg, iI_lt, iI_le, iI_eq, iI_lt0, iI_le0, iI_gt0, iI_ge0, iI_eq0] <;> omega)
        · refine zW.go [51] rfl (by omega) trivial ?_
          refine gat_in hd hS ⟨z0, p1, zp2, zp3, zk1, zC, zGG⟩ hz hsb hR0 hQ m (a + 1) (by omega) I L t gf gd gc _ f c1 c2 ⟨b1, b2, b3, b4, b5, b6, by omega, b9, fun x hx1 hx2 => ?_⟩ hi hg3 hu ?_
          · by_cases c : x = a
            · rw [c]
              exact ⟨j, hj, (Rw_rf (b5 j hj).1 (rf_comp hrf hp)).mp q, hu j hj⟩
            · exact b10 x hx1 (by omega)
          · exact (by simp (disch := omega) only [eq_self, not_true_eq_false, not_false_eq_true, upI_same, upL_same, upI_ne, upL_ne, iI_ixN, zI_mk, zL_mk, zP_mk, zK_mk, zN_mk, zwI_up, zwL_up, zg_some, Nat.reduceMod, Nat.reduceDiv, zcn_I, iI_add, iI_sub, iI_mul, iI_neg, iI_lt, iI_le, iI_eq, iI_lt0, iI_le0, iI_gt0, iI_ge0, iI_eq0] <;> omega)
        · refine zW.go [51] rfl (by omega) trivial ?_
          have gfo : ∀ j, j < gc → (if j = gc then (fun p => gf i (tn a p)) else gf j) = gf j := fun j hj => if_neg (by omega)
          have gdo : ∀ j, j < gc → (if j = gc then gd i + 1 else gd j) = gd j := fun j hj => if_neg (by omega)
          have gdn : (if gc = gc then gd i + 1 else gd gc) = gd i + 1 := if_pos rfl
          refine gat_in hd hS ⟨z0, p1, zp2, zp3, zk1, zC, zGG⟩ hz hsb hR0 hQ m (a + 1) (by omega) I' L' t' _ _ (gc + 1) _ (sfr_tr f f') c1' c2' ⟨hT', by omega, ?_, ?_, fun j hj => ?_, fun j k hjk hk => ?_, by omega, fun j x hj hjc hx => ?_, fun x hx1 hx2 => ?_⟩ (by omega) ?_ (fun j hj => ?_) ?_
          · dsimp only
            rw [gfo 0 (by omega)]
            exact b3
          · dsimp only
            rw [gdo 0 (by omega)]
            exact b4
          · dsimp only
            by_cases c : j = gc
            · rw [if_pos c, if_pos c]
              exact ⟨rf_comp hrf hp, by omega, by omega, by omega⟩
            · rw [if_neg c, if_neg c]
              exact b5 j (by omega)
          · dsimp only
            by_cases c : k = gc
            · rw [gdo j (by omega), c, if_pos rfl]
              exact hu j (by omega)
            · rw [gdo j (by omega), gdo k (by omega)]
              exact b6 j k hjk (by omega)
          · dsimp only
            rw [gfo j (by omega), gdo j (by omega)]
            obtain ⟨k, a1, a2, a3⟩ := b9 j x hj (by omega) hx
            exact ⟨k, by omega, by rw [gfo k a1]; exact a2, by rw [gdo k a1]; exact a3⟩
          · dsimp only
            rw [gfo i hi, gdo i hi]
            by_cases c : x = a
            · rw [c]
              exact ⟨gc, by omega, by rw [if_pos rfl], by rw [if_pos rfl]; exact Nat.le_refl _⟩
            · obtain ⟨k, a1, a2, a3⟩ := b10 x hi (by omega)
              exact ⟨k, by omega, by rw [gfo k a1]; exact a2, by rw [gdo k a1]; exact a3⟩
          · rw [gdo i hi]
            exact hg3
          · rw [gdo i hi]
            by_cases c : j = gc
            · rw [if_pos c]
              exact Nat.le_refl _
            · rw [if_neg c]
              exact hu j (by omega)
          · exact (by simp (disch := omega) only [eq_self, not_true_eq_false, not_false_eq_true, upI_same, upL_same, upI_ne, upL_ne, iI_ixN, zI_mk, zL_mk, zP_mk, zK_mk, zN_mk, zwI_up, zwL_up, zg_some, Nat.reduceMod, Nat.reduceDiv, zcn_I, iI_add, iI_sub, iI_mul, iI_neg, iI_lt, iI_le, iI_eq, iI_lt0, iI_le0, iI_gt0, iI_ge0, iI_eq0] <;> omega)
theorem gat_out {I0 : Nat → Nat → Int32} {L0 : Nat → Nat → Int64} (hd : 3 ≤ d) (hS : SL s R) (hL : ZL b R) (hz : zOK n r tn col st) (hsb : s + 6 ≤ b) (hR0 : zPR b I0 L0 n r tn col st)
    (hQ : ∀ I' L' t gf gd gc, sfr s I0 L0 I' L' → ceR s I' L' t → gOK tn r col t gf gd gc → Q (.inl none) (I', L', R)) :
    ∀ m i, i + m = 585 → ∀ (I : Nat → Nat → Int32) (L : Nat → Nat → Int64) (t : zCe) (gf : Nat → Nat → Nat) (gd : Nat → Nat) (gc : Nat) (x : Int32) (v : Option zV), sfr s I0 L0 I L → ceR s I L t → gaR s I L gf gd gc → gJ tn r col t gf gd gc i 0 → (∀ j, j < gc → gd j ≤ gd (i - 1) + 1) → i ≤ gc → x = iI (i : Int) →
      zW 78 d 0 0 24 [some (zr (some s)), some (zr (some b)), some (zi x), v] [] (I, L, R) Q := by
  intro m i hm I L t gf gd gc x v f c1 c2 j1 hu hic e
  have hS' := hS
  obtain ⟨k0, sp0, sp1, sp2, sp3, sp4, k1, k2, k3, k4, k5⟩ := hS'
  induction m generalizing i I L t gf gd gc x v with
  | zero =>
    subst e
    have g5 := c2.1
    obtain ⟨b1, b2, b3, b4, b5, b6, b7, b9, b10⟩ := j1
    have hgcm := b1.2.1
    refine zW.gbt [] rfl rfl rfl (by omega) ?_ ?_ (zW.gr [] rfl rfl rfl (by omega) trivial trivial (hQ I L t gf gd gc f c1 ⟨b1, b2, b3, b4, fun j hj => ⟨(b5 j hj).1, (b5 j hj).2.1⟩, fun j x hj _ hx => b9 j x (by omega) hj hx⟩))
    · exact (by simp (disch := omega) only [true_or, or_true, eq_self, Option.some.injEq, Prod.mk.injEq, zall_0, zall_1, zall_2, zob_iff, zar_iff, zis_iff, zkIs_some, zkHas_some, iI_vp, z01_I, z01_bz, zch_I, true_and, and_true, or_false, false_or, and_self, upI_same, upL_same, upI_ne, upL_ne, iI_ixN, zI_mk, zL_mk, zP_mk, zK_mk, zN_mk, zwI_up, zwL_up, zg_some, Nat.reduceMod, Nat.reduceDiv, zcn_I, iI_add, iI_sub, iI_mul, iI_neg, iI_lt, iI_le, iI_eq, iI_lt0, iI_le0, iI_gt0, iI_ge0, iI_eq0, k0] <;> omega)
    · exact (by simp (disch := omega) only [eq_self, not_true_eq_false, not_false_eq_true, upI_same, upL_same, upI_ne, upL_ne, iI_ixN, zI_mk, zL_mk, zP_mk, zK_mk, zN_mk, zwI_up, zwL_up, zg_some, Nat.reduceMod, Nat.reduceDiv, zcn_I, iI_add, iI_sub, iI_mul, iI_neg, iI_lt, iI_le, iI_eq, iI_lt0, iI_le0, iI_gt0, iI_ge0, iI_eq0, g5] <;> omega)
  | succ m ih =>
    subst e
    have g5 := c2.1
    have j1' := j1
    obtain ⟨b1, b2, b3, b4, b5, b6, b7, b9, b10⟩ := j1'
    have hgcm := b1.2.1
    by_cases hlt : i < gc
    · obtain ⟨y1, y2⟩ := c2.2 i hlt
      have y3 := (b1.2.2.2.1 i hlt).2.1
      by_cases h3 : gd i < 3
      · refine zW.gbf [] rfl rfl rfl (by omega) ?_ ?_ (zW.gbf [] rfl rfl rfl (by omega) trivial ?_ (zW.gbf [] rfl rfl rfl (by omega) ?_ ?_ (zW.go [51] rfl (by omega) trivial ?_)))
        · exact (by simp (disch := omega) only [true_or, or_true, eq_self, Option.some.injEq, Prod.mk.injEq, zall_0, zall_1, zall_2, zob_iff, zar_iff, zis_iff, zkIs_some, zkHas_some, iI_vp, z01_I, z01_bz, zch_I, true_and, and_true, or_false, false_or, and_self, upI_same, upL_same, upI_ne, upL_ne, iI_ixN, zI_mk, zL_mk, zP_mk, zK_mk, zN_mk, zwI_up, zwL_up, zg_some, Nat.reduceMod, Nat.reduceDiv, zcn_I, iI_add, iI_sub, iI_mul, iI_neg, iI_lt, iI_le, iI_eq, iI_lt0, iI_le0, iI_gt0, iI_ge0, iI_eq0, k0] <;> omega)
        · exact (by simp (disch := omega) only [eq_self, not_true_eq_false, not_false_eq_true, upI_same, upL_same, upI_ne, upL_ne, iI_ixN, zI_mk, zL_mk, zP_mk, zK_mk, zN_mk, zwI_up, zwL_up, zg_some, Nat.reduceMod, Nat.reduceDiv, zcn_I, iI_add, iI_sub, iI_mul, iI_neg, iI_lt, iI_le, iI_eq, iI_lt0, iI_le0, iI_gt0, iI_ge0, iI_eq0, g5] <;> omega)
        · exact (by simp (disch := omega) only [eq_self, not_true_eq_false, not_false_eq_true, upI_same, upL_same, upI_ne, upL_ne, iI_ixN, zI_mk, zL_mk, zP_mk, zK_mk, zN_mk, zwI_up, zwL_up, zg_some, Nat.reduceMod, Nat.reduceDiv, zcn_I, iI_add, iI_sub, iI_mul, iI_neg, iI_lt, iI_le, iI_eq, iI_lt0, iI_le0, iI_gt0, iI_ge0, iI_eq0] <;> omega)
        · exact (by simp (disch := omega) only [true_or, or_true, eq_self, Option.some.injEq, Prod.mk.injEq, zall_0, zall_1, zall_2, zob_iff, zar_iff, zis_iff, zkIs_some, zkHas_some, iI_vp, z01_I, z01_bz, zch_I, true_and, and_true, or_false, false_or, and_self, upI_same, upL_same, upI_ne, upL_ne, iI_ixN, zI_mk, zL_mk, zP_mk, zK_mk, zN_mk, zwI_up, zwL_up, zg_some, Nat.reduceMod, Nat.reduceDiv, zcn_I, iI_add, iI_sub, iI_mul, iI_neg, iI_lt, iI_le, iI_eq, iI_lt0, iI_le0, iI_gt0, iI_ge0, iI_eq0, k0, sp3, k4] <;> omega)
        · exact (by simp (disch := omega) only [eq_self, not_true_eq_false, not_false_eq_true, upI_same, upL_same, upI_ne, upL_ne, iI_ixN, zI_mk, zL_mk, zP_mk, zK_mk, zN_mk, zwI_up, zwL_up, zg_some, Nat.reduceMod, Nat.reduceDiv, zcn_I, iI_add, iI_sub, iI_mul, iI_neg, iI_lt, iI_le, iI_eq, iI_lt0, iI_le0, iI_gt0, iI_ge0, iI_eq0, sp3, y2] <;> omega)
        · refine gat_in (i := i) (I0 := I0) (L0 := L0) hd hS hL hz hsb hR0 (fun I' L' t' gf' gd' gc' f' c1' c2' j' hu' hg' v' => ?_) (2 * r) 0 (by omega) I L t gf gd gc _ f c1 c2 j1 hlt h3 (fun j hj => ?_) rfl
          · exact ih (i + 1) (by omega) I' L' t' gf' gd' gc' _ _ f' c1' c2' j' (by rw [Nat.add_sub_cancel]; exact hu') hg' rfl
          · have := hu j hj
            by_cases c : 0 < i
            · have := b6 (i - 1) i (by omega) hlt
              omega
            · have hi0 : i = 0 := by omega
              rw [hi0] at this ⊢
              exact this
      · refine zW.gbf [] rfl rfl rfl (by omega) ?_ ?_ (zW.gbf [] rfl rfl rfl (by omega) trivial ?_ (zW.gbt [] rfl rfl rfl (by omega) ?_ ?_ (zW.gr [] rfl rfl rfl (by omega) trivial trivial (hQ I L t gf gd gc f c1 ⟨b1, b2, b3, b4, fun j hj => ⟨(b5 j hj).1, (b5 j hj).2.1⟩, fun j x hj hj3 hx => ?_⟩))))
        · exact (by simp (disch := omega) only [true_or, or_true, eq_self, Option.some.injEq, Prod.mk.injEq, zall_0, zall_1, zall_2, zob_iff, zar_iff, zis_iff, zkIs_some, zkHas_some, iI_vp, z01_I, z01_bz, zch_I, true_and, and_true, or_false, false_or, and_self, upI_same, upL_same, upI_ne, upL_ne, iI_ixN, zI_mk, zL_mk, zP_mk, zK_mk, zN_mk, zwI_up, zwL_up, zg_some, Nat.reduceMod, Nat.reduceDiv, zcn_I, iI_add, iI_sub, iI_mul, iI_neg, iI_lt, iI_le, iI_eq, iI_lt0, iI_le0, iI_gt0, iI_ge0, iI_eq0, k0] <;> omega)
        · exact (by simp (disch := omega) only [eq_self, not_true_eq_false, not_false_eq_true, upI_same, upL_same, upI_ne, upL_ne, iI_ixN, zI_mk, zL_mk, zP_mk, zK_mk, zN_mk, zwI_up, zwL_up, zg_some, Nat.reduceMod, Nat.reduceDiv, zcn_I, iI_add, iI_sub, iI_mul, iI_neg, iI_lt, iI_le, iI_eq, iI_lt0, iI_le0, iI_gt0, iI_ge0, iI_eq0, g5] <;> omega)
        · exact (by simp (disch := omega) only [eq_self, not_true_eq_false, not_false_eq_true, upI_same, upL_same, upI_ne, upL_ne, iI_ixN, zI_mk, zL_mk, zP_mk, zK_mk, zN_mk, zwI_up, zwL_up, zg_some, Nat.reduceMod, Nat.reduceDiv, zcn_I, iI_add, iI_sub, iI_mul, iI_neg, iI_lt, iI_le, iI_eq, iI_lt0, iI_le0, iI_gt0, iI_ge0, iI_eq0] <;> omega)
        · exact (by simp (disch := omega) only [true_or, or_true, eq_self, Option.some.injEq, Prod.mk.injEq, zall_0, zall_1, zall_2, zob_iff, zar_iff, zis_iff, zkIs_some, zkHas_some, iI_vp, z01_I, z01_bz, zch_I, true_and, and_true, or_false, false_or, and_self, upI_same, upL_same, upI_ne, upL_ne, iI_ixN, zI_mk, zL_mk, zP_mk, zK_mk, zN_mk, zwI_up, zwL_up, zg_some, Nat.reduceMod, Nat.reduceDiv, zcn_I, iI_add, iI_sub, iI_mul, iI_neg, iI_lt, iI_le, iI_eq, iI_lt0, iI_le0, iI_gt0, iI_ge0, iI_eq0, k0, sp3, k4] <;> omega)
        · exact (by simp (disch := omega) only [eq_self, not_true_eq_false, not_false_eq_true, upI_same, upL_same, upI_ne, upL_ne, iI_ixN, zI_mk, zL_mk, zP_mk, zK_mk, zN_mk, zwI_up, zwL_up, zg_some, Nat.reduceMod, Nat.reduceDiv, zcn_I, iI_add, iI_sub, iI_mul, iI_neg, iI_lt, iI_le, iI_eq, iI_lt0, iI_le0, iI_gt0, iI_ge0, iI_eq0, sp3, y2] <;> omega)
        · by_cases c : j < i
          · exact b9 j x c hj hx
          · by_cases c2 : j = i
            · rw [c2] at hj3
              exact absurd hj3 h3
            · have := b6 i j (by omega) hj
              omega
    · refine zW.gbt [] rfl rfl rfl (by omega) ?_ ?_ (zW.gr [] rfl rfl rfl (by omega) trivial trivial (hQ I L t gf gd gc f c1 ⟨b1, b2, b3, b4, fun j hj => ⟨(b5 j hj).1, (b5 j hj).2.1⟩, fun j x hj _ hx => b9 j x (by omega) hj hx⟩))
      · exact (by simp (disch := omega) only [true_or, or_true, eq_self, Option.some.injEq, Prod.mk.injEq, zall_0, zall_1, zall_2, zob_iff, zar_iff, zis_iff, zkIs_some, zkHas_some, iI_vp, z01_I, z01_bz, zch_I, true_and, and_true, or_false, false_or, and_self, upI_same, upL_same, upI_ne, upL_ne, iI_ixN, zI_mk, zL_mk, zP_mk, zK_mk, zN_mk, zwI_up, zwL_up, zg_some, Nat.reduceMod, Nat.reduceDiv, zcn_I, iI_add, iI_sub, iI_mul, iI_neg, iI_lt, iI_le, iI_eq, iI_lt0, iI_le0, iI_gt0, iI_ge0, iI_eq0, k0] <;> omega)
      · exact (by simp (disch := omega) only [eq_self, not_true_eq_false, not_false_eq_true, upI_same, upL_same, upI_ne, upL_ne, iI_ixN, zI_mk, zL_mk, zP_mk, zK_mk, zN_mk, zwI_up, zwL_up, zg_some, Nat.reduceMod, Nat.reduceDiv, zcn_I, iI_add, iI_sub, iI_mul, iI_neg, iI_lt, iI_le, iI_eq, iI_lt0, iI_le0, iI_gt0, iI_ge0, iI_eq0, g5] <;> omega)
end GATH
