/-! The graph over the memory: drawing, its making. -/
theorem chain_fr {c : Nat} {I I' : Nat → Nat → Int32} {L L' : Nat → Nat → Int64} {A : (Nat → Nat) → Prop} (h : chain c I L A) (hI : I' c = I c) (hL : ∀ b, c ≤ b → b ≤ c + 4 → L' b = L b) : chain c I' L' A := by
  obtain ⟨tb, mk, mn, g1, ⟨r1, r2, r3⟩, z1, z2⟩ := h
  refine ⟨tb, mk, mn, g1, ⟨tbR_cg (hL _ (by omega) (by omega)) (hL _ (by omega) (by omega)) r1, by rw [hI]; exact r2, fun i hi => ?_⟩, ?_, fun k hk => ?_⟩
  · rw [hL _ (by omega) (by omega)]
    exact r3 i hi
  · rw [hL _ (by omega) (by omega)]
    exact z1
  · rw [hL _ (by omega) (by omega)]
    exact z2 k hk
theorem chain_sz {c : Nat} {I : Nat → Nat → Int32} {L : Nat → Nat → Int64} {A : (Nat → Nat) → Prop} (hA : ∀ g, A g → pm 10 g) (h : chain c I L A) : L c 5 = iL (szG (Gm A) 10 : Int) := by
  obtain ⟨tb, mk, mn, g1, r1, z1, z2⟩ := h
  rw [z1, szT_eq hA g1]
/-- a drawing's writes -/
def dfr (g : Nat) (I : Nat → Nat → Int32) (L : Nat → Nat → Int64) (I' : Nat → Nat → Int32) (L' : Nat → Nat → Int64) : Prop := (∀ b, b ≠ g → ¬ (g + 3 ≤ b ∧ b ≤ g + 10) → I' b = I b) ∧ (∀ j, j ≠ 6 → j ≠ 7 → j ≠ 8 → I' g j = I g j) ∧ ∀ b, b ≠ g + 1 → L' b = L b
theorem dfr_tr {g : Nat} {I I1 I2 : Nat → Nat → Int32} {L L1 L2 : Nat → Nat → Int64} (h1 : dfr g I L I1 L1) (h2 : dfr g I1 L1 I2 L2) : dfr g I L I2 L2 := ⟨fun b x y => (h2.1 b x y).trans (h1.1 b x y), fun j x y z => (h2.2.1 j x y z).trans (h1.2.1 j x y z), fun b x => (h2.2.2 b x).trans (h1.2.2 b x)⟩
noncomputable def nxG (G : (Nat → Nat) → Prop) (arm : Nat → Nat → Nat) (a i : Nat) : Nat := numG G (fun p => stG G i (arm a p)) 10
section DRAW
variable {d g c am cnt sz : Nat} {L : Nat → Nat → Int64} {R : zRt} {Q : zO → zM → Prop} {A : (Nat → Nat) → Prop} {arm : Nat → Nat → Nat}
theorem draw_1 {I : Nat → Nat → Int32} {x3 : Int32} (hd : 5 ≤ d) (hL : GL g R) (hC : CL c R) (hcg : c + 5 ≤ g) (hA : ∀ g, A g → pm 10 g) (hsz : szG (Gm A) 10 = sz) (h800 : sz ≤ 800) (hch : chain c I L A) (hI6 : I g 6 = iI (sz : Int))
    (hQ : ∀ L', (∀ b, b ≠ g + 1 → L' b = L b) → (∀ i, i < sz → L' (g + 1) i = Rw (stG (Gm A) i)) → ∀ v w, zW 12 d 0 0 62 [some (zr (some g)), some (zr (some c)), some (zr (some am)), some (zi x3), v, w] [] (I, L', R) Q) :
    ∀ n i, i + n = sz → ∀ (L1 : Nat → Nat → Int64) (x : Int32) (w : Option zV), (∀ b, b ≠ g + 1 → L1 b = L b) → (∀ j, j < i → L1 (g + 1) j = Rw (stG (Gm A) j)) → x = iI (i : Int) →
      zW 12 d 0 0 33 [some (zr (some g)), some (zr (some c)), some (zr (some am)), some (zi x3), some (zi x), w] [] (I, L1, R) Q
  | 0, i, hi, L1, x, w, f, r, e => by
    subst e
    obtain rfl : i = sz := by omega
    have hL' := hL
    obtain ⟨k0, p0, p1, p2, p3, p4, k1, k2, k3, k4, k5, k6, k7⟩ := hL'
    refine zW.gbt [] rfl rfl rfl (by omega) ?_ ?_ (hQ L1 f r _ _)
    · exact (by simp (disch := omega) only [true_or, or_true, eq_self, Option.some.injEq, Prod.mk.injEq, zall_0, zall_1, zall_2, zob_iff, zar_iff, zis_iff, zkIs_some, zkHas_some, iI_vp, z01_I, z01_bz, zch_I, true_and, and_true, or_false, false_or, and_self, upI_same, upL_same, upI_ne, upL_ne, iI_ixN, zI_mk, zL_mk, zP_mk, zK_mk, zN_mk, zwI_up, zwL_up, zg_some, Nat.reduceMod, Nat.reduceDiv, zcn_I, iI_add, iI_sub, iI_mul, iI_neg, iI_lt, iI_le, iI_eq, iI_lt0, iI_le0, iI_gt0, iI_ge0, iI_eq0, k0] <;> omega)
    · exact (by simp (disch := omega) only [eq_self, not_true_eq_false, not_false_eq_true, upI_same, upL_same, upI_ne, upL_ne, iI_ixN, zI_mk, zL_mk, zP_mk, zK_mk, zN_mk, zwI_up, zwL_up, zg_some, Nat.reduceMod, Nat.reduceDiv, zcn_I, iI_add, iI_sub, iI_mul, iI_neg, iI_lt, iI_le, iI_eq, iI_lt0, iI_le0, iI_gt0, iI_ge0, iI_eq0, hI6] <;> omega)
  | n + 1, i, hi, L1, x, w, f, r, e => by
    subst e
    have hL' := hL
    obtain ⟨k0, p0, p1, p2, p3, p4, k1, k2, k3, k4, k5, k6, k7⟩ := hL'
    obtain ⟨s1, s2⟩ := stG_sp (Gm_isG hA) (show i < szG (Gm A) 10 by omega)
    refine zW.gbf [] rfl rfl rfl (by omega) ?_ ?_ (zW.gz [] rfl rfl rfl (by omega) ?_ ?_ rfl rfl (Nat.le_refl _) (Nat.le_refl _) ?_)
    · exact (by simp (disch := omega) only [true_or, or_true, eq_self, Option.some.injEq, Prod.mk.injEq, zall_0, zall_1, zall_2, zob_iff, zar_iff, zis_iff, zkIs_some, zkHas_some, iI_vp, z01_I, z01_bz, zch_I, true_and, and_true, or_false, false_or, and_self, upI_same, upL_same, upI_ne, upL_ne, iI_ixN, zI_mk, zL_mk, zP_mk, zK_mk, zN_mk, zwI_up, zwL_up, zg_some, Nat.reduceMod, Nat.reduceDiv, zcn_I, iI_add, iI_sub, iI_mul, iI_neg, iI_lt, iI_le, iI_eq, iI_lt0, iI_le0, iI_gt0, iI_ge0, iI_eq0, k0] <;> omega)
    · exact (by simp (disch := omega) only [eq_self, not_true_eq_false, not_false_eq_true, upI_same, upL_same, upI_ne, upL_ne, iI_ixN, zI_mk, zL_mk, zP_mk, zK_mk, zN_mk, zwI_up, zwL_up, zg_some, Nat.reduceMod, Nat.reduceDiv, zcn_I, iI_add, iI_sub, iI_mul, iI_neg, iI_lt, iI_le, iI_eq, iI_lt0, iI_le0, iI_gt0, iI_ge0, iI_eq0, hI6] <;> omega)
    · exact (by simp (disch := omega) only [true_or, or_true, eq_self, Option.some.injEq, Prod.mk.injEq, zall_0, zall_1, zall_2, zob_iff, zar_iff, zis_iff, zkIs_some, zkHas_some, iI_vp, z01_I, z01_bz, zch_I, true_and, and_true, or_false, false_or, and_self, upI_same, upL_same, upI_ne, upL_ne, iI_ixN, zI_mk, zL_mk, zP_mk, zK_mk, zN_mk, zwI_up, zwL_up, zg_some, Nat.reduceMod, Nat.reduceDiv, zcn_I, iI_add, iI_sub, iI_mul, iI_neg, iI_lt, iI_le, iI_eq, iI_lt0, iI_le0, iI_gt0, iI_ge0, iI_eq0, k0] <;> omega)
    · exact ⟨_, rfl, hC.1⟩
    · simp (disch := omega) only [upI_same, upL_same, upI_ne, upL_ne, iI_ixN, zI_mk, zL_mk, zP_mk, zK_mk, zN_mk, zwI_up, zwL_up, zg_some, Nat.reduceMod, Nat.reduceDiv, zcn_I, iI_add, iI_sub, iI_mul, iI_neg, iI_lt, iI_le, iI_eq, iI_lt0, iI_le0, iI_gt0, iI_ge0, iI_eq0, p0]
      refine state_ok (A := A) (s := stG (Gm A) i) (by omega) hC hA (chain_fr hch rfl (fun b q1 q2 => f b (by omega))) s1 ?_ ?_
      · rw [iI_L (by omega) (by omega), s2]
      · refine zW.go [33] rfl (by omega) ?_ ?_
        · exact (by simp (disch := omega) only [true_or, or_true, eq_self, Option.some.injEq, Prod.mk.injEq, zall_0, zall_1, zall_2, zob_iff, zar_iff, zis_iff, zkIs_some, zkHas_some, iI_vp, z01_I, z01_bz, zch_I, true_and, and_true, or_false, false_or, and_self, upI_same, upL_same, upI_ne, upL_ne, iI_ixN, zI_mk, zL_mk, zP_mk, zK_mk, zN_mk, zwI_up, zwL_up, zg_some, Nat.reduceMod, Nat.reduceDiv, zcn_I, iI_add, iI_sub, iI_mul, iI_neg, iI_lt, iI_le, iI_eq, iI_lt0, iI_le0, iI_gt0, iI_ge0, iI_eq0, k0, p0, k1] <;> omega)
        · simp (disch := omega) only [upI_same, upL_same, upI_ne, upL_ne, iI_ixN, zI_mk, zL_mk, zP_mk, zK_mk, zN_mk, zwI_up, zwL_up, zg_some, Nat.reduceMod, Nat.reduceDiv, zcn_I, iI_add, iI_sub, iI_mul, iI_neg, iI_lt, iI_le, iI_eq, iI_lt0, iI_le0, iI_gt0, iI_ge0, iI_eq0]
          refine draw_1 hd hL hC hcg hA hsz h800 hch hI6 hQ n (i + 1) (by omega) _ _ _ (fun b q => ?_) (fun j hj => ?_) ?_
          · rw [upL_row q]
            exact f b q
          · by_cases q : j = i
            · rw [q, upL_same]
            · rw [upL_ne (by omega)]
              exact r j (by omega)
          · exact (by simp (disch := omega) only [eq_self, not_true_eq_false, not_false_eq_true, upI_same, upL_same, upI_ne, upL_ne, iI_ixN, zI_mk, zL_mk, zP_mk, zK_mk, zN_mk, zwI_up, zwL_up, zg_some, Nat.reduceMod, Nat.reduceDiv, zcn_I, iI_add, iI_sub, iI_mul, iI_neg, iI_lt, iI_le, iI_eq, iI_lt0, iI_le0, iI_gt0, iI_ge0, iI_eq0] <;> omega)
theorem draw_2 {I0 : Nat → Nat → Int32} {a : Nat} {x3 : Int32} (hd : 3 ≤ d) (hL : GL g R) (hKam : R.2.1 am = some (21, 8)) (hA : ∀ g, A g → pm 10 g) (hsz : szG (Gm A) 10 = sz) (h800 : sz ≤ 800) (ha8 : a < 8) (harm : L am a = Rw (arm a)) (hag : Gm A (arm a)) (hS : ∀ i, i < sz → L (g + 1) i = Rw (stG (Gm A) i))
    (hI6 : I0 g 6 = iI (sz : Int))
    (hQ : ∀ I', (∀ b, b ≠ g + 3 + a → I' b = I0 b) → (∀ i, i < sz → I' (g + 3 + a) i = iI (nxG (Gm A) arm a i : Int)) → ∀ w, zW 12 d 0 0 124 [some (zr (some g)), some (zr (some c)), some (zr (some am)), some (zi x3), some (zi (iI (a : Int))), w] [] (I', L, R) Q) :
    ∀ n i, i + n = sz → ∀ (I1 : Nat → Nat → Int32) (x : Int32), (∀ b, b ≠ g + 3 + a → I1 b = I0 b) → (∀ j, j < i → I1 (g + 3 + a) j = iI (nxG (Gm A) arm a j : Int)) → x = iI (i : Int) →
      zW 12 d 0 0 77 [some (zr (some g)), some (zr (some c)), some (zr (some am)), some (zi x3), some (zi (iI (a : Int))), some (zi x)] [] (I1, L, R) Q
  | 0, i, hi, I1, x, f, r, e => by
    subst e
    obtain rfl : i = sz := by omega
    have hL' := hL
    obtain ⟨k0, p0, p1, p2, p3, p4, k1, k2, k3, k4, k5, k6, k7⟩ := hL'
    have hI6' : I1 g 6 = iI (i : Int) := by
      rw [f g (by omega)]
      exact hI6
    refine zW.gbt [] rfl rfl rfl (by omega) ?_ ?_ (hQ I1 f r _)
    · exact (by simp (disch := omega) only [true_or, or_true, eq_self, Option.some.injEq, Prod.mk.injEq, zall_0, zall_1, zall_2, zob_iff, zar_iff, zis_iff, zkIs_some, zkHas_some, iI_vp, z01_I, z01_bz, zch_I, true_and, and_true, or_false, false_or, and_self, upI_same, upL_same, upI_ne, upL_ne, iI_ixN, zI_mk, zL_mk, zP_mk, zK_mk, zN_mk, zwI_up, zwL_up, zg_some, Nat.reduceMod, Nat.reduceDiv, zcn_I, iI_add, iI_sub, iI_mul, iI_neg, iI_lt, iI_le, iI_eq, iI_lt0, iI_le0, iI_gt0, iI_ge0, iI_eq0, k0] <;> omega)
    · exact (by simp (disch := omega) only [eq_self, not_true_eq_false, not_false_eq_true, upI_same, upL_same, upI_ne, upL_ne, iI_ixN, zI_mk, zL_mk, zP_mk, zK_mk, zN_mk, zwI_up, zwL_up, zg_some, Nat.reduceMod, Nat.reduceDiv, zcn_I, iI_add, iI_sub, iI_mul, iI_neg, iI_lt, iI_le, iI_eq, iI_lt0, iI_le0, iI_gt0, iI_ge0, iI_eq0, hI6'] <;> omega)
  | n + 1, i, hi, I1, x, f, r, e => by
    subst e
    have hL' := hL
    obtain ⟨k0, p0, p1, p2, p3, p4, k1, k2, k3, k4, k5, k6, k7⟩ := hL'
    obtain ⟨p6, k9⟩ := k6 a ha8
    have hI6' : I1 g 6 = iI (sz : Int) := by
      rw [f g (by omega)]
      exact hI6
    have hGG := Gm_isG hA
    obtain ⟨s1, s2⟩ := stG_sp hGG (show i < szG (Gm A) 10 by omega)
    have sp := hGG.1 _ s1
    have ap := hGG.1 _ hag
    have hs := hS i (by omega)
    have hG1 := hGG.2.2.1 _ _ s1 hag
    have hlt := numG_lt hGG hG1 10 (Nat.le_refl _)
    refine zW.gbf [] rfl rfl rfl (by omega) ?_ ?_ (zW.gz [] rfl rfl rfl (by omega) ?_ trivial rfl rfl (Nat.le_refl _) (Nat.le_refl _) ?_)
    · exact (by simp (disch := omega) only [true_or, or_true, eq_self, Option.some.injEq, Prod.mk.injEq, zall_0, zall_1, zall_2, zob_iff, zar_iff, zis_iff, zkIs_some, zkHas_some, iI_vp, z01_I, z01_bz, zch_I, true_and, and_true, or_false, false_or, and_self, upI_same, upL_same, upI_ne, upL_ne, iI_ixN, zI_mk, zL_mk, zP_mk, zK_mk, zN_mk, zwI_up, zwL_up, zg_some, Nat.reduceMod, Nat.reduceDiv, zcn_I, iI_add, iI_sub, iI_mul, iI_neg, iI_lt, iI_le, iI_eq, iI_lt0, iI_le0, iI_gt0, iI_ge0, iI_eq0, k0] <;> omega)
    · exact (by simp (disch := omega) only [eq_self, not_true_eq_false, not_false_eq_true, upI_same, upL_same, upI_ne, upL_ne, iI_ixN, zI_mk, zL_mk, zP_mk, zK_mk, zN_mk, zwI_up, zwL_up, zg_some, Nat.reduceMod, Nat.reduceDiv, zcn_I, iI_add, iI_sub, iI_mul, iI_neg, iI_lt, iI_le, iI_eq, iI_lt0, iI_le0, iI_gt0, iI_ge0, iI_eq0, hI6'] <;> omega)
    · simp (disch := omega) only [upI_same, upL_same, upI_ne, upL_ne, iI_ixN, zI_mk, zL_mk, zP_mk, zK_mk, zN_mk, zwI_up, zwL_up, zg_some, Nat.reduceMod, Nat.reduceDiv, zcn_I, iI_add, iI_sub, iI_mul, iI_neg, iI_lt, iI_le, iI_eq, iI_lt0, iI_le0, iI_gt0, iI_ge0, iI_eq0, p0, p1]
      exact (by simp (disch := omega) only [true_or, or_true, eq_self, Option.some.injEq, Prod.mk.injEq, zall_0, zall_1, zall_2, zob_iff, zar_iff, zis_iff, zkIs_some, zkHas_some, iI_vp, z01_I, z01_bz, zch_I, true_and, and_true, or_false, false_or, and_self, upI_same, upL_same, upI_ne, upL_ne, iI_ixN, zI_mk, zL_mk, zP_mk, zK_mk, zN_mk, zwI_up, zwL_up, zg_some, Nat.reduceMod, Nat.reduceDiv, zcn_I, iI_add, iI_sub, iI_mul, iI_neg, iI_lt, iI_le, iI_eq, iI_lt0, iI_le0, iI_gt0, iI_ge0, iI_eq0, k0, p0, k1, p1, k2, hKam] <;> omega)
    · simp (disch := omega) only [upI_same, upL_same, upI_ne, upL_ne, iI_ixN, zI_mk, zL_mk, zP_mk, zK_mk, zN_mk, zwI_up, zwL_up, zg_some, Nat.reduceMod, Nat.reduceDiv, zcn_I, iI_add, iI_sub, iI_mul, iI_neg, iI_lt, iI_le, iI_eq, iI_lt0, iI_le0, iI_gt0, iI_ge0, iI_eq0, p0, p1, p6, hs, harm]
      refine through_ok (f := stG (Gm A) i) (g := arm a) (by omega) (pm_nb sp) ap.1 rfl rfl ?_
      refine zW.gz [] rfl rfl rfl (by omega) trivial ?_ rfl rfl (Nat.le_refl _) (Nat.le_refl _) ?_
      · exact ⟨_, rfl, k0⟩
      · refine find_ok (s := fun p => stG (Gm A) i (arm a p)) (by omega) hL hGG hsz h800 hI6' hS (pm_comp sp ap) rfl (fun _ => ?_) (fun q => absurd hG1 q)
        have hmax : (if iI (numG (Gm A) (fun p => stG (Gm A) i (arm a p)) 10 : Int) < zcn 0 then zcn 0 else iI (numG (Gm A) (fun p => stG (Gm A) i (arm a p)) 10 : Int)) = iI (nxG (Gm A) arm a i : Int) := by
          rw [zcn_I, if_neg]
          · rfl
          · rw [iI_lt (by omega) (by omega) (by omega) (by omega)]
            omega
        refine zW.go [77] rfl (by omega) ?_ ?_
        · exact (by simp (disch := omega) only [true_or, or_true, eq_self, Option.some.injEq, Prod.mk.injEq, zall_0, zall_1, zall_2, zob_iff, zar_iff, zis_iff, zkIs_some, zkHas_some, iI_vp, z01_I, z01_bz, zch_I, true_and, and_true, or_false, false_or, and_self, upI_same, upL_same, upI_ne, upL_ne, iI_ixN, zI_mk, zL_mk, zP_mk, zK_mk, zN_mk, zwI_up, zwL_up, zg_some, Nat.reduceMod, Nat.reduceDiv, zcn_I, iI_add, iI_sub, iI_mul, iI_neg, iI_lt, iI_le, iI_eq, iI_lt0, iI_le0, iI_gt0, iI_ge0, iI_eq0, k9] <;> omega)
        · rw [hmax]
          simp (disch := omega) only [upI_same, upL_same, upI_ne, upL_ne, iI_ixN, zI_mk, zL_mk, zP_mk, zK_mk, zN_mk, zwI_up, zwL_up, zg_some, Nat.reduceMod, Nat.reduceDiv, zcn_I, iI_add, iI_sub, iI_mul, iI_neg, iI_lt, iI_le, iI_eq, iI_lt0, iI_le0, iI_gt0, iI_ge0, iI_eq0]
          refine draw_2 hd hL hKam hA hsz h800 ha8 harm hag hS hI6 hQ n (i + 1) (by omega) _ _ (fun b q => ?_) (fun j hj => ?_) ?_
          · rw [upI_row q]
            exact f b q
          · by_cases q : j = i
            · rw [q, upI_same]
            · rw [upI_ne (by omega)]
              exact r j (by omega)
          · exact (by simp (disch := omega) only [eq_self, not_true_eq_false, not_false_eq_true, upI_same, upL_same, upI_ne, upL_ne, iI_ixN, zI_mk, zL_mk, zP_mk, zK_mk, zN_mk, zwI_up, zwL_up, zg_some, Nat.reduceMod, Nat.reduceDiv, zcn_I, iI_add, iI_sub, iI_mul, iI_neg, iI_lt, iI_le, iI_eq, iI_lt0, iI_le0, iI_gt0, iI_ge0, iI_eq0] <;> omega)
theorem draw_3 {I0 : Nat → Nat → Int32} {x3 : Int32} (hd : 3 ≤ d) (hL : GL g R) (hKam : R.2.1 am = some (21, 8)) (hA : ∀ g, A g → pm 10 g) (hsz : szG (Gm A) 10 = sz) (h800 : sz ≤ 800) (hc8 : cnt ≤ 8) (harm : ∀ a, a < cnt → L am a = Rw (arm a)) (hag : ∀ a, a < cnt → Gm A (arm a)) (hS : ∀ i, i < sz → L (g + 1) i = Rw (stG (Gm A) i))
    (hI6 : I0 g 6 = iI (sz : Int)) (hI7 : I0 g 7 = iI (cnt : Int))
    (hQ : ∀ I', (∀ b, b ≠ g → ¬ (g + 3 ≤ b ∧ b ≤ g + 10) → I' b = I0 b) → (∀ j, j ≠ 8 → I' g j = I0 g j) → (∀ a i, a < cnt → i < sz → I' (g + 3 + a) i = iI (nxG (Gm A) arm a i : Int)) → I' g 8 = iI 1 → Q (.inl none) (I', L, R)) :
    ∀ n a, a + n = cnt → ∀ (I1 : Nat → Nat → Int32) (x : Int32) (w : Option zV), (∀ b, ¬ (g + 3 ≤ b ∧ b ≤ g + 10) → I1 b = I0 b) → (∀ a' i, a' < a → i < sz → I1 (g + 3 + a') i = iI (nxG (Gm A) arm a' i : Int)) → x = iI (a : Int) →
      zW 12 d 0 0 65 [some (zr (some g)), some (zr (some c)), some (zr (some am)), some (zi x3), some (zi x), w] [] (I1, L, R) Q
  | 0, a, ha, I1, x, w, f, r, e => by
    subst e
    obtain rfl : a = cnt := by omega
    have hL' := hL
    obtain ⟨k0, p0, p1, p2, p3, p4, k1, k2, k3, k4, k5, k6, k7⟩ := hL'
    have hI7' : I1 g 7 = iI (a : Int) := by
      rw [f g (by omega)]
      exact hI7
    refine zW.gbt [] rfl rfl rfl (by omega) ?_ ?_ (zW.gr [] rfl rfl rfl (by omega) ?_ trivial ?_)
    · exact (by simp (disch := omega) only [true_or, or_true, eq_self, Option.some.injEq, Prod.mk.injEq, zall_0, zall_1, zall_2, zob_iff, zar_iff, zis_iff, zkIs_some, zkHas_some, iI_vp, z01_I, z01_bz, zch_I, true_and, and_true, or_false, false_or, and_self, upI_same, upL_same, upI_ne, upL_ne, iI_ixN, zI_mk, zL_mk, zP_mk, zK_mk, zN_mk, zwI_up, zwL_up, zg_some, Nat.reduceMod, Nat.reduceDiv, zcn_I, iI_add, iI_sub, iI_mul, iI_neg, iI_lt, iI_le, iI_eq, iI_lt0, iI_le0, iI_gt0, iI_ge0, iI_eq0, k0] <;> omega)
    · exact (by simp (disch := omega) only [eq_self, not_true_eq_false, not_false_eq_true, upI_same, upL_same, upI_ne, upL_ne, iI_ixN, zI_mk, zL_mk, zP_mk, zK_mk, zN_mk, zwI_up, zwL_up, zg_some, Nat.reduceMod, Nat.reduceDiv, zcn_I, iI_add, iI_sub, iI_mul, iI_neg, iI_lt, iI_le, iI_eq, iI_lt0, iI_le0, iI_gt0, iI_ge0, iI_eq0, hI7'] <;> omega)
    · exact (by simp (disch := omega) only [true_or, or_true, eq_self, Option.some.injEq, Prod.mk.injEq, zall_0, zall_1, zall_2, zob_iff, zar_iff, zis_iff, zkIs_some, zkHas_some, iI_vp, z01_I, z01_bz, zch_I, true_and, and_true, or_false, false_or, and_self, upI_same, upL_same, upI_ne, upL_ne, iI_ixN, zI_mk, zL_mk, zP_mk, zK_mk, zN_mk, zwI_up, zwL_up, zg_some, Nat.reduceMod, Nat.reduceDiv, zcn_I, iI_add, iI_sub, iI_mul, iI_neg, iI_lt, iI_le, iI_eq, iI_lt0, iI_le0, iI_gt0, iI_ge0, iI_eq0, k0] <;> omega)
    · simp (disch := omega) only [upI_same, upL_same, upI_ne, upL_ne, iI_ixN, zI_mk, zL_mk, zP_mk, zK_mk, zN_mk, zwI_up, zwL_up, zg_some, Nat.reduceMod, Nat.reduceDiv, zcn_I, iI_add, iI_sub, iI_mul, iI_neg, iI_lt, iI_le, iI_eq, iI_lt0, iI_le0, iI_gt0, iI_ge0, iI_eq0, zcn_I]
      refine hQ _ (fun b q1 q2 => ?_) (fun j q => ?_) (fun a' i h1 h2 => ?_) ?_
      · rw [upI_row q1]
        exact f b q2
      · rw [upI_ne (by omega), f g (by omega)]
      · rw [upI_row (by omega)]
        exact r a' i h1 h2
      · rw [upI_same]
  | n + 1, a, ha, I1, x, w, f, r, e => by
    subst e
    have hL' := hL
    obtain ⟨k0, p0, p1, p2, p3, p4, k1, k2, k3, k4, k5, k6, k7⟩ := hL'
    have hI7' : I1 g 7 = iI (cnt : Int) := by
      rw [f g (by omega)]
      exact hI7
    refine zW.gbf [] rfl rfl rfl (by omega) ?_ ?_ (zW.go [77] rfl (by omega) trivial ?_)
    · exact (by simp (disch := omega) only [true_or, or_true, eq_self, Option.some.injEq, Prod.mk.injEq, zall_0, zall_1, zall_2, zob_iff, zar_iff, zis_iff, zkIs_some, zkHas_some, iI_vp, z01_I, z01_bz, zch_I, true_and, and_true, or_false, false_or, and_self, upI_same, upL_same, upI_ne, upL_ne, iI_ixN, zI_mk, zL_mk, zP_mk, zK_mk, zN_mk, zwI_up, zwL_up, zg_some, Nat.reduceMod, Nat.reduceDiv, zcn_I, iI_add, iI_sub, iI_mul, iI_neg, iI_lt, iI_le, iI_eq, iI_lt0, iI_le0, iI_gt0, iI_ge0, iI_eq0, k0] <;> omega)
    · exact (by simp (disch := omega) only [eq_self, not_true_eq_false, not_false_eq_true, upI_same, upL_same, upI_ne, upL_ne, iI_ixN, zI_mk, zL_mk, zP_mk, zK_mk, zN_mk, zwI_up, zwL_up, zg_some, Nat.reduceMod, Nat.reduceDiv, zcn_I, iI_add, iI_sub, iI_mul, iI_neg, iI_lt, iI_le, iI_eq, iI_lt0, iI_le0, iI_gt0, iI_ge0, iI_eq0, hI7'] <;> omega)
    · refine draw_2 (arm := arm) (a := a) (I0 := I1) hd hL hKam hA hsz h800 (by omega) (harm a (by omega)) (hag a (by omega)) hS (by rw [f g (by omega)]; exact hI6) (fun I' q1 q2 w' => ?_) sz 0 (by omega) I1 _ (fun _ _ => rfl) (fun j hj => absurd hj (Nat.not_lt_zero j)) rfl
      refine zW.go [65] rfl (by omega) trivial ?_
      refine draw_3 hd hL hKam hA hsz h800 hc8 harm hag hS hI6 hI7 hQ n (a + 1) (by omega) I' _ _ (fun b q => ?_) (fun a' i h1 h2 => ?_) ?_
      · rw [q1 b (by omega)]
        exact f b q
      · by_cases c : a' = a
        · rw [c]
          exact q2 i h2
        · rw [q1 _ (by omega)]
          exact r a' i (by omega) h2
      · exact (by simp (disch := omega) only [eq_self, not_true_eq_false, not_false_eq_true, upI_same, upL_same, upI_ne, upL_ne, iI_ixN, zI_mk, zL_mk, zP_mk, zK_mk, zN_mk, zwI_up, zwL_up, zg_some, Nat.reduceMod, Nat.reduceDiv, zcn_I, iI_add, iI_sub, iI_mul, iI_neg, iI_lt, iI_le, iI_eq, iI_lt0, iI_le0, iI_gt0, iI_ge0, iI_eq0] <;> omega)
theorem draw_ok {I : Nat → Nat → Int32} {x3 : Int32} (hd : 5 ≤ d) (hL : GL g R) (hC : CL c R) (hcg : c + 5 ≤ g) (hKam : R.2.1 am = some (21, 8)) (hamg : am < g) (hA : ∀ g, A g → pm 10 g) (hsz : szG (Gm A) 10 = sz) (h800 : sz ≤ 800) (hch : chain c I L A) (e : x3 = iI (cnt : Int)) (hc8 : cnt ≤ 8) (harm : ∀ a, a < cnt → L am a = Rw (arm a)) (hag : ∀ a, a < cnt → Gm A (arm a))
    (hQ : ∀ I' L', dfr g I L I' L' → gN g I' sz cnt (nxG (Gm A) arm) → (∀ i, i < sz → L' (g + 1) i = Rw (stG (Gm A) i)) → I' g 8 = iI 1 → Q (.inl none) (I', L', R)) : zS 12 d [zr (some g), zr (some c), zr (some am), zi x3] (I, L, R) Q := by
  subst e
  have hL' := hL
  obtain ⟨k0, p0, p1, p2, p3, p4, k1, k2, k3, k4, k5, k6, k7⟩ := hL'
  have hC' := hC
  obtain ⟨ck0, cp0, -⟩ := hC'
  have z8 := chain_sz hA hch
  rw [hsz] at z8
  have z1 : Int64.ofInt (zldL 2062) = iL 800 := by decide +kernel
  have hlen : nI (zlenOf ((I, L, R) : zM) (some am)) = iI 8 := by
    rw [zlenOf_some (M := (I, L, R)) (t := 21) (n := 8) hKam]
    decide
  have m1 : (if iL 800 < iL (sz : Int) then iL 800 else iL (sz : Int)).toInt32 = iI (sz : Int) := by
    rw [if_neg]
    · exact iL_I _
    · rw [iL_lt (by omega) (by omega) (by omega) (by omega)]
      omega
  have m2 : (if (if iI 8 < iI 8 then iI 8 else iI 8) < iI (cnt : Int) then (if iI 8 < iI 8 then iI 8 else iI 8) else iI (cnt : Int)) = iI (cnt : Int) := by
    rw [ite_self, if_neg]
    rw [iI_lt (by omega) (by omega) (by omega) (by omega)]
    omega
  refine zW.go [33] rfl (by omega) ?_ ?_
  · refine ⟨?_, ?_, ?_, ?_⟩
    · exact (by simp (disch := omega) only [true_or, or_true, eq_self, Option.some.injEq, Prod.mk.injEq, zall_0, zall_1, zall_2, zob_iff, zar_iff, zis_iff, zkIs_some, zkHas_some, iI_vp, z01_I, z01_bz, zch_I, true_and, and_true, or_false, false_or, and_self, upI_same, upL_same, upI_ne, upL_ne, iI_ixN, zI_mk, zL_mk, zP_mk, zK_mk, zN_mk, zwI_up, zwL_up, zg_some, Nat.reduceMod, Nat.reduceDiv, zcn_I, iI_add, iI_sub, iI_mul, iI_neg, iI_lt, iI_le, iI_eq, iI_lt0, iI_le0, iI_gt0, iI_ge0, iI_eq0, k0] <;> omega)
    · exact ⟨1, by decide, ⟨am, 8, rfl, hKam⟩⟩
    · exact (by simp (disch := omega) only [true_or, or_true, eq_self, Option.some.injEq, Prod.mk.injEq, zall_0, zall_1, zall_2, zob_iff, zar_iff, zis_iff, zkIs_some, zkHas_some, iI_vp, z01_I, z01_bz, zch_I, true_and, and_true, or_false, false_or, and_self, upI_same, upL_same, upI_ne, upL_ne, iI_ixN, zI_mk, zL_mk, zP_mk, zK_mk, zN_mk, zwI_up, zwL_up, zg_some, Nat.reduceMod, Nat.reduceDiv, zcn_I, iI_add, iI_sub, iI_mul, iI_neg, iI_lt, iI_le, iI_eq, iI_lt0, iI_le0, iI_gt0, iI_ge0, iI_eq0, k0] <;> omega)
    · exact (by simp (disch := omega) only [true_or, or_true, eq_self, Option.some.injEq, Prod.mk.injEq, zall_0, zall_1, zall_2, zob_iff, zar_iff, zis_iff, zkIs_some, zkHas_some, iI_vp, z01_I, z01_bz, zch_I, true_and, and_true, or_false, false_or, and_self, upI_same, upL_same, upI_ne, upL_ne, iI_ixN, zI_mk, zL_mk, zP_mk, zK_mk, zN_mk, zwI_up, zwL_up, zg_some, Nat.reduceMod, Nat.reduceDiv, zcn_I, iI_add, iI_sub, iI_mul, iI_neg, iI_lt, iI_le, iI_eq, iI_lt0, iI_le0, iI_gt0, iI_ge0, iI_eq0, ck0] <;> omega)
  · simp (disch := omega) only [upI_same, upL_same, upI_ne, upL_ne, iI_ixN, zI_mk, zL_mk, zP_mk, zK_mk, zN_mk, zwI_up, zwL_up, zg_some, Nat.reduceMod, Nat.reduceDiv, z8, z1, m1]
    have hlen2 : ∀ I', nI (zlenOf ((I', L, R) : zM) (some am)) = iI 8 := fun I' => by
      rw [zlenOf_some (M := (I', L, R)) (t := 21) (n := 8) hKam]
      decide
    rw [hlen2, show zcn 8 = iI 8 from zcn_I 8, m2]
    have hch' : chain c (upI (upI I g 6 (iI (sz : Int))) g 7 (iI (cnt : Int))) L A := chain_fr hch (by rw [upI_row (by omega), upI_row (by omega)]) (fun _ _ _ => rfl)
    refine draw_1 (am := am) hd hL hC hcg hA hsz h800 hch' (by simp (disch := omega) only [upI_same, upL_same, upI_ne, upL_ne, iI_ixN, zI_mk, zL_mk, zP_mk, zK_mk, zN_mk, zwI_up, zwL_up, zg_some, Nat.reduceMod, Nat.reduceDiv, zcn_I, iI_add, iI_sub, iI_mul, iI_neg, iI_lt, iI_le, iI_eq, iI_lt0, iI_le0, iI_gt0, iI_ge0, iI_eq0]) (fun L' f r v w => ?_) sz 0 (by omega) L _ _ (fun _ _ => rfl) (fun j hj => absurd hj (Nat.not_lt_zero j)) rfl
    refine zW.go [65] rfl (by omega) trivial ?_
    refine draw_3 (arm := arm) (I0 := upI (upI I g 6 (iI (sz : Int))) g 7 (iI (cnt : Int))) (by omega) hL hKam hA hsz h800 hc8 (fun a ha => by rw [f am (by omega)]; exact harm a ha) hag r (by simp (disch := omega) only [upI_same, upL_same, upI_ne, upL_ne, iI_ixN, zI_mk, zL_mk, zP_mk, zK_mk, zN_mk, zwI_up, zwL_up, zg_some, Nat.reduceMod, Nat.reduceDiv, zcn_I, iI_add, iI_sub, iI_mul, iI_neg, iI_lt, iI_le, iI_eq, iI_lt0, iI_le0, iI_gt0, iI_ge0, iI_eq0]) (by simp (disch := omega) only [upI_same, upL_same, upI_ne, upL_ne, iI_ixN, zI_mk, zL_mk, zP_mk, zK_mk, zN_mk, zwI_up, zwL_up, zg_some, Nat.reduceMod, Nat.reduceDiv, zcn_I, iI_add, iI_sub, iI_mul, iI_neg, iI_lt, iI_le, iI_eq, iI_lt0, iI_le0, iI_gt0, iI_ge0, iI_eq0]) (fun I' q1 q2 q3 q4 => ?_) cnt 0 (by omega) _ _ _ (fun _ _ => rfl) (fun a' i h _ => absurd h (Nat.not_lt_zero _)) rfl
    refine hQ I' L' ⟨fun b a1 a2 => ?_, fun j a1 a2 a3 => ?_, f⟩ ⟨h800, hc8, ?_, ?_, q3, fun a s ha hs => ?_⟩ r q4
    · rw [q1 b a1 a2, upI_row a1, upI_row a1]
    · rw [q2 j a3, upI_ne (by omega), upI_ne (by omega)]
    · rw [q2 6 (by decide)]
      simp (disch := omega) only [upI_same, upL_same, upI_ne, upL_ne, iI_ixN, zI_mk, zL_mk, zP_mk, zK_mk, zN_mk, zwI_up, zwL_up, zg_some, Nat.reduceMod, Nat.reduceDiv, zcn_I, iI_add, iI_sub, iI_mul, iI_neg, iI_lt, iI_le, iI_eq, iI_lt0, iI_le0, iI_gt0, iI_ge0, iI_eq0]
    · rw [q2 7 (by decide)]
      simp (disch := omega) only [upI_same, upL_same, upI_ne, upL_ne, iI_ixN, zI_mk, zL_mk, zP_mk, zK_mk, zN_mk, zwI_up, zwL_up, zg_some, Nat.reduceMod, Nat.reduceDiv, zcn_I, iI_add, iI_sub, iI_mul, iI_neg, iI_lt, iI_le, iI_eq, iI_lt0, iI_le0, iI_gt0, iI_ge0, iI_eq0]
    · have hGG := Gm_isG hA
      obtain ⟨s1, s2⟩ := stG_sp hGG (show s < szG (Gm A) 10 by omega)
      have := numG_lt hGG (hGG.2.2.1 _ _ s1 (hag a ha)) 10 (Nat.le_refl _)
      unfold nxG
      omega
end DRAW
