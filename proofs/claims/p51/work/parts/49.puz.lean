/-! A puzzle of the class over the memory. -/
def ZL (b : Nat) (R : zRt) : Prop := R.2.1 b = some (2, 0) ∧ R.1 b 1 = some (b + 1) ∧ R.1 b 2 = some (b + 2) ∧ R.1 b 3 = some (b + 7) ∧ R.2.1 (b + 1) = some (21, 8) ∧ CL (b + 2) R ∧ GL (b + 7) R
/-- its rings' turns forward -/
def zA (r : Nat) (tn : Nat → Nat → Nat) (g : Nat → Nat) : Prop := ∃ i, i < r ∧ g = tn (2 * i)
def zG (r : Nat) (tn : Nat → Nat → Nat) : (Nat → Nat) → Prop := Gm (zA r tn)
/-- what a puzzle is: places, rings, turns, colours, pieces -/
def zOK (n r : Nat) (tn : Nat → Nat → Nat) (col st : Nat → Nat) : Prop := 3 ≤ n ∧ n ≤ 10 ∧ r ≤ 4 ∧ (∀ a, a < 2 * r → pm n (tn a)) ∧ (∀ i, i < r → tn (2 * i + 1) = vi 10 (tn (2 * i))) ∧ (∀ a, a < 2 * r → ∃ c, 1 ≤ c ∧ c ≤ 8 ∧ itf (tn a) c = fun p => p) ∧ (∀ p, p < 10 → col p < 10) ∧ (∀ p, n ≤ p → col p = p) ∧ pm n st
noncomputable def zSv (r : Nat) (tn : Nat → Nat → Nat) (col : Nat → Nat) (i : Nat) : Bool := dc (∀ p, p < 10 → col (stG (zG r tn) i p) = col p)
noncomputable def zBF (k r : Nat) (tn : Nat → Nat → Nat) (col : Nat → Nat) : bSt := bF (nxG (zG r tn) tn) (tt k) (2 * r) (szG (zG r tn) 10) (zSv r tn col)
def zGr (g : Nat) (I : Nat → Nat → Int32) (L : Nat → Nat → Int64) (r : Nat) (tn : Nat → Nat → Nat) (col : Nat → Nat) : Prop := ∃ (dr : Bool) (m : Nat → Bool), I g 8 = bz dr ∧ (dr = true → gN g I (szG (zG r tn) 10) (2 * r) (nxG (zG r tn) tn) ∧ ∀ i, i < szG (zG r tn) 10 → L (g + 1) i = Rw (stG (zG r tn) i)) ∧ ∀ k, k < 2 → I (g + 15) k = bz (m k) ∧ (m k = true → dr = true ∧ ∀ s, s < szG (zG r tn) 10 → I (g + 12 + k) s = iI ((zBF k r tn col).1 s))
def zPR (b : Nat) (I : Nat → Nat → Int32) (L : Nat → Nat → Int64) (n r : Nat) (tn : Nat → Nat → Nat) (col st : Nat → Nat) : Prop := I b 0 = iI (n : Int) ∧ I b 4 = iI (r : Int) ∧ L b 5 = Rw col ∧ L b 6 = Rw st ∧ (∀ a, a < 2 * r → L (b + 1) a = Rw (tn a)) ∧ chain (b + 2) I L (zA r tn) ∧ zGr (b + 7) I L r tn col
/-- writes within a puzzle alone -/
def zfr (b : Nat) (I : Nat → Nat → Int32) (L : Nat → Nat → Int64) (I' : Nat → Nat → Int32) (L' : Nat → Nat → Int64) : Prop := (∀ a, ¬ (b ≤ a ∧ a < b + 24) → I' a = I a) ∧ ∀ a, ¬ (b ≤ a ∧ a < b + 24) → L' a = L a
theorem zfr_rf (b : Nat) (I : Nat → Nat → Int32) (L : Nat → Nat → Int64) : zfr b I L I L := ⟨fun _ _ => rfl, fun _ _ => rfl⟩
theorem zfr_tr {b : Nat} {I I1 I2 : Nat → Nat → Int32} {L L1 L2 : Nat → Nat → Int64} (h1 : zfr b I L I1 L1) (h2 : zfr b I1 L1 I2 L2) : zfr b I L I2 L2 := ⟨fun a q => (h2.1 a q).trans (h1.1 a q), fun a q => (h2.2 a q).trans (h1.2 a q)⟩
theorem zPR_fr {b : Nat} {I I' : Nat → Nat → Int32} {L L' : Nat → Nat → Int64} {n r : Nat} {tn : Nat → Nat → Nat} {col st : Nat → Nat} (h : zPR b I L n r tn col st) (hI : ∀ a, b ≤ a → a < b + 24 → I' a = I a) (hL : ∀ a, b ≤ a → a < b + 24 → L' a = L a) : zPR b I' L' n r tn col st := by
  obtain ⟨h1, h2, h3, h4, h5, h6, dr, m, g1, g2, g3⟩ := h
  have e0 := hI b (by omega) (by omega)
  have e1 := hL b (by omega) (by omega)
  refine ⟨by rw [e0]; exact h1, by rw [e0]; exact h2, by rw [e1]; exact h3, by rw [e1]; exact h4, fun a ha => by rw [hL _ (by omega) (by omega)]; exact h5 a ha, chain_fr h6 (hI _ (by omega) (by omega)) (fun a q1 q2 => hL a (by omega) (by omega)), dr, m, ?_, fun q => ?_, fun k hk => ⟨?_, fun q => ⟨((g3 k hk).2 q).1, fun s hs => ?_⟩⟩⟩
  · rw [hI _ (by omega) (by omega)]
    exact g1
  · obtain ⟨⟨n1, n2, n3, n4, n5, n6⟩, n7⟩ := g2 q
    refine ⟨⟨n1, n2, ?_, ?_, fun a s ha hs => ?_, n6⟩, fun i hi => ?_⟩
    · rw [hI _ (by omega) (by omega)]
      exact n3
    · rw [hI _ (by omega) (by omega)]
      exact n4
    · rw [hI _ (by omega) (by omega)]
      exact n5 a s ha hs
    · rw [hL _ (by omega) (by omega)]
      exact n7 i hi
  · rw [hI _ (by omega) (by omega)]
    exact (g3 k hk).1
  · rw [hI _ (by omega) (by omega)]
    exact ((g3 k hk).2 q).2 s hs
section PUZ
variable {d b n r : Nat} {tn : Nat → Nat → Nat} {col st : Nat → Nat} {I : Nat → Nat → Int32} {L : Nat → Nat → Int64} {R : zRt} {Q : zO → zM → Prop}
theorem zA_pm (hz : zOK n r tn col st) : ∀ g, zA r tn g → pm 10 g := by
  rintro g ⟨i, hi, rfl⟩
  exact pm_up (hz.2.2.2.1 _ (by omega)) hz.2.1
theorem zG_tn (hz : zOK n r tn col st) {a : Nat} (ha : a < 2 * r) : zG r tn (tn a) := by
  by_cases h : a % 2 = 0
  · exact Gm_of ⟨a / 2, by omega, by rw [show 2 * (a / 2) = a by omega]⟩
  · have e : a = 2 * (a / 2) + 1 := by omega
    rw [e, hz.2.2.2.2.1 (a / 2) (by omega)]
    exact Gm_vi (zA_pm hz) (Gm_of ⟨a / 2, by omega, rfl⟩)
theorem zG_is (hz : zOK n r tn col st) : isG (zG r tn) := Gm_isG (zA_pm hz)
theorem zst_pm (hz : zOK n r tn col st) : pm 10 st := pm_up hz.2.2.2.2.2.2.2.2 hz.2.1
theorem ztn_pm (hz : zOK n r tn col st) {a : Nat} (ha : a < 2 * r) : pm 10 (tn a) := pm_up (hz.2.2.2.1 a ha) hz.2.1
theorem zcol_nb (hz : zOK n r tn col st) : nb col := fun p hp => Nat.lt_trans (hz.2.2.2.2.2.2.1 p hp) (by decide)
theorem strayed_ok (hd : 3 ≤ d) (hL : ZL b R) (hz : zOK n r tn col st) (hR : zPR b I L n r tn col st) (hQ : Q (.inl (some (zi (iI (ct (fun p => !(st p == p)) 10 : Nat))))) (I, L, R)) : zS 29 d [zr (some b)] (I, L, R) Q := by
  obtain ⟨k0, p1, p2, p3, k1, hC, hG⟩ := hL
  have r4 := hR.2.2.2.1
  have z1 : Int64.ofInt (zldL 3062) = iL 4886718345 := by decide +kernel
  refine zW.gz [] rfl rfl rfl (by omega) ?_ trivial rfl rfl (Nat.le_refl _) (Nat.le_refl _) ?_
  · exact (by simp (disch := omega) only [true_or, or_true, eq_self, Option.some.injEq, Prod.mk.injEq, zall_0, zall_1, zall_2, zob_iff, zar_iff, zis_iff, zkIs_some, zkHas_some, iI_vp, z01_I, z01_bz, zch_I, true_and, and_true, or_false, false_or, and_self, upI_same, upL_same, upI_ne, upL_ne, iI_ixN, zI_mk, zL_mk, zP_mk, zK_mk, zN_mk, zwI_up, zwL_up, zg_some, Nat.reduceMod, Nat.reduceDiv, zcn_I, iI_add, iI_sub, iI_mul, iI_neg, iI_lt, iI_le, iI_eq, iI_lt0, iI_le0, iI_gt0, iI_ge0, iI_eq0, k0] <;> omega)
  · simp (disch := omega) only [upI_same, upL_same, upI_ne, upL_ne, iI_ixN, zI_mk, zL_mk, zP_mk, zK_mk, zN_mk, zwI_up, zwL_up, zg_some, Nat.reduceMod, Nat.reduceDiv, zcn_I, iI_add, iI_sub, iI_mul, iI_neg, iI_lt, iI_le, iI_eq, iI_lt0, iI_le0, iI_gt0, iI_ge0, iI_eq0, r4, z1]
    refine unlike_ok (f := st) (g := fun p => p) (by omega) (pm_nb (zst_pm hz)) (pm_nb (pm_id 10)) rfl Rw_id.symm ?_
    exact zW.gr [] rfl rfl rfl (by omega) trivial trivial hQ
theorem shows_ok {f : Nat → Nat} {o : Int64} (hd : 3 ≤ d) (hL : ZL b R) (hz : zOK n r tn col st) (hR : zPR b I L n r tn col st) (hf : pm 10 f) (e : o = Rw f) (h1 : (∀ p, p < 10 → col (f p) = col p) → Q (.inl (some (zi (iI 1)))) (I, L, R)) (h0 : ¬ (∀ p, p < 10 → col (f p) = col p) → Q (.inl (some (zi (iI 0)))) (I, L, R)) : zS 30 d [zr (some b), zl o] (I, L, R) Q := by
  subst e
  obtain ⟨k0, p1, p2, p3, k1, hC, hG⟩ := hL
  have r3 := hR.2.2.1
  have hc := zcol_nb hz
  have hcf : nb (fun p => col (f p)) := fun p hp => hc _ (hf.1 p hp)
  refine zW.gz [] rfl rfl rfl (by omega) ?_ trivial rfl rfl (Nat.le_refl _) (Nat.le_refl _) ?_
  · exact (by simp (disch := omega) only [true_or, or_true, eq_self, Option.some.injEq, Prod.mk.injEq, zall_0, zall_1, zall_2, zob_iff, zar_iff, zis_iff, zkIs_some, zkHas_some, iI_vp, z01_I, z01_bz, zch_I, true_and, and_true, or_false, false_or, and_self, upI_same, upL_same, upI_ne, upL_ne, iI_ixN, zI_mk, zL_mk, zP_mk, zK_mk, zN_mk, zwI_up, zwL_up, zg_some, Nat.reduceMod, Nat.reduceDiv, zcn_I, iI_add, iI_sub, iI_mul, iI_neg, iI_lt, iI_le, iI_eq, iI_lt0, iI_le0, iI_gt0, iI_ge0, iI_eq0, k0] <;> omega)
  · simp (disch := omega) only [upI_same, upL_same, upI_ne, upL_ne, iI_ixN, zI_mk, zL_mk, zP_mk, zK_mk, zN_mk, zwI_up, zwL_up, zg_some, Nat.reduceMod, Nat.reduceDiv, zcn_I, iI_add, iI_sub, iI_mul, iI_neg, iI_lt, iI_le, iI_eq, iI_lt0, iI_le0, iI_gt0, iI_ge0, iI_eq0, r3]
    refine through_ok (f := col) (g := f) (by omega) hc hf.1 rfl rfl ?_
    refine zW.gb [] rfl rfl rfl (by omega) ?_ (fun h => ?_) (fun h => ?_)
    · exact (by simp (disch := omega) only [true_or, or_true, eq_self, Option.some.injEq, Prod.mk.injEq, zall_0, zall_1, zall_2, zob_iff, zar_iff, zis_iff, zkIs_some, zkHas_some, iI_vp, z01_I, z01_bz, zch_I, true_and, and_true, or_false, false_or, and_self, upI_same, upL_same, upI_ne, upL_ne, iI_ixN, zI_mk, zL_mk, zP_mk, zK_mk, zN_mk, zwI_up, zwL_up, zg_some, Nat.reduceMod, Nat.reduceDiv, zcn_I, iI_add, iI_sub, iI_mul, iI_neg, iI_lt, iI_le, iI_eq, iI_lt0, iI_le0, iI_gt0, iI_ge0, iI_eq0, k0] <;> omega)
    · rw [lg_cmp_eq] at h
      simp only [upI_same, upL_same, upI_ne, upL_ne, iI_ixN, zI_mk, zL_mk, zP_mk, zK_mk, zN_mk, zwI_up, zwL_up, zg_some, Nat.reduceMod, Nat.reduceDiv, r3] at h
      rw [Rw_eq hcf hc] at h
      refine zW.gr [] rfl rfl rfl (by omega) trivial z01c0 ?_
      rw [zcn_I]
      exact h0 h
    · have h := Classical.not_not.mp h
      rw [lg_cmp_eq] at h
      simp only [upI_same, upL_same, upI_ne, upL_ne, iI_ixN, zI_mk, zL_mk, zP_mk, zK_mk, zN_mk, zwI_up, zwL_up, zg_some, Nat.reduceMod, Nat.reduceDiv, r3] at h
      rw [Rw_eq hcf hc] at h
      refine zW.gr [] rfl rfl rfl (by omega) trivial z01c1 ?_
      rw [zcn_I]
      exact h1 h
theorem small_ok (hd : 1 ≤ d) (hL : ZL b R) (hz : zOK n r tn col st) (hR : zPR b I L n r tn col st) (h1 : szG (zG r tn) 10 ≤ 800 → Q (.inl (some (zi (iI 1)))) (I, L, R)) (h0 : ¬ szG (zG r tn) 10 ≤ 800 → Q (.inl (some (zi (iI 0)))) (I, L, R)) : zS 32 d [zr (some b)] (I, L, R) Q := by
  obtain ⟨k0, p1, p2, p3, k1, hC, hG⟩ := hL
  have ck := hC.1
  have z8 := chain_sz (zA_pm hz) hR.2.2.2.2.2.1
  have hle := szG_le (zG r tn) 10
  have hle2 : szG (Gm (zA r tn)) 10 ≤ 10 ^ 10 := hle
  have z1 : Int64.ofInt (zldL 2033) = iL 800 := by decide +kernel
  refine zW.gb [] rfl rfl rfl hd ?_ (fun h => ?_) (fun h => ?_)
  · exact (by simp (disch := omega) only [true_or, or_true, eq_self, Option.some.injEq, Prod.mk.injEq, zall_0, zall_1, zall_2, zob_iff, zar_iff, zis_iff, zkIs_some, zkHas_some, iI_vp, z01_I, z01_bz, zch_I, true_and, and_true, or_false, false_or, and_self, upI_same, upL_same, upI_ne, upL_ne, iI_ixN, zI_mk, zL_mk, zP_mk, zK_mk, zN_mk, zwI_up, zwL_up, zg_some, Nat.reduceMod, Nat.reduceDiv, zcn_I, iI_add, iI_sub, iI_mul, iI_neg, iI_lt, iI_le, iI_eq, iI_lt0, iI_le0, iI_gt0, iI_ge0, iI_eq0, k0, p2, ck] <;> omega)
  · rw [lg_cmp_gt] at h
    simp only [upI_same, upL_same, upI_ne, upL_ne, iI_ixN, zI_mk, zL_mk, zP_mk, zK_mk, zN_mk, zwI_up, zwL_up, zg_some, Nat.reduceMod, Nat.reduceDiv, p2, z8, z1] at h
    rw [iL_lt (by omega) (by omega) (by omega) (by omega)] at h
    refine zW.gr [] rfl rfl rfl hd trivial z01c0 ?_
    rw [zcn_I]
    exact h0 (by unfold zG; omega)
  · rw [lg_cmp_gt] at h
    simp only [upI_same, upL_same, upI_ne, upL_ne, iI_ixN, zI_mk, zL_mk, zP_mk, zK_mk, zN_mk, zwI_up, zwL_up, zg_some, Nat.reduceMod, Nat.reduceDiv, p2, z8, z1] at h
    rw [iL_lt (by omega) (by omega) (by omega) (by omega)] at h
    refine zW.gr [] rfl rfl rfl hd trivial z01c1 ?_
    rw [zcn_I]
    exact h1 (by unfold zG; omega)
/-- pieces after turns -/
def saf (tn : Nat → Nat → Nat) (st : Nat → Nat) : List Nat → Nat → Nat
  | [] => st
  | t :: l => saf tn (fun p => st (tn t p)) l
theorem saf_snoc (tn : Nat → Nat → Nat) (t : Nat) : ∀ (l : List Nat) (st : Nat → Nat), saf tn st (l ++ [t]) = fun p => saf tn st l (tn t p)
  | [], _ => rfl
  | x :: l, st => saf_snoc tn t l _
theorem saf_pm {m : Nat} {tn : Nat → Nat → Nat} : ∀ {l : List Nat} {st : Nat → Nat}, pm m st → (∀ t, t ∈ l → pm m (tn t)) → pm m (saf tn st l)
  | [], _, h, _ => h
  | t :: l, st, h, k => saf_pm (l := l) (st := fun p => st (tn t p)) (pm_comp h (k t List.mem_cons_self)) fun t' h' => k t' (List.mem_cons_of_mem _ h')
end PUZ
