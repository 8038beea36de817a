/-! The model's groups: the table laid, with its sizes. -/
/-- the group of A, laid -/
def mGr (y n : Nat) (A : (Nat → Nat) → Prop) (I : Nat → Nat → Int32) (L : Nat → Nat → Int64) (tb : zTb) : Prop := tW tb ∧ tN n tb ∧ mTb y I tb ∧ (∀ k j v, tb k j = some v → Gm A v) ∧ tPairs tb ∧ (∀ g, A g → Fl tb 10 g) ∧ ∀ k, k ≤ n → L (y + 173) k = iL (szG (Gm A) (10 - k) : Int)
theorem cT_orb {A : (Nat → Nat) → Prop} {tb : zTb} (hA : ∀ g, A g → pm 10 g) (hW : tW tb) (hp : tPairs tb) (hg : ∀ g, A g → Fl tb 10 g) (hm : ∀ k j v, tb k j = some v → Gm A v) {k : Nat} (hk : k < 10) : cT tb k = cntG (Gm A) k := ct_cg fun j _ => bl_iff (by
  rw [Option.isSome_iff_exists, orb_tb hW hp hA hg hm hk]
  exact dc_t.symm)
theorem szT_orb {A : (Nat → Nat) → Prop} {tb : zTb} (hA : ∀ g, A g → pm 10 g) (hW : tW tb) (hp : tPairs tb) (hg : ∀ g, A g → Fl tb 10 g) (hm : ∀ k j v, tb k j = some v → Gm A v) : ∀ n, szT tb n = szG (Gm A) n
  | 0 => rfl
  | n + 1 => by
    have h1 := szT_orb hA hW hp hg hm n
    have h2 := cT_orb hA hW hp hg hm (k := 9 - n) (by omega)
    show szT tb n * cT tb (9 - n) = szG (Gm A) n * cntG (Gm A) (9 - n)
    rw [h1, h2]
theorem mGr_fr {y n : Nat} {A : (Nat → Nat) → Prop} {I I' : Nat → Nat → Int32} {L L' : Nat → Nat → Int64} {tb : zTb} (h : mGr y n A I L tb) (f : ∀ a, y + 52 ≤ a → a ≤ y + 172 → I' a = I a) (g : L' (y + 173) = L (y + 173)) : mGr y n A I' L' tb := by
  obtain ⟨h1, h2, h3, h4, h5, h6, h7⟩ := h
  exact ⟨h1, h2, mTb_fr h3 f, h4, h5, h6, by rw [g]; exact h7⟩
section MLYZ
variable {d y : Nat} {T : tfT} {I : Nat → Nat → Int32} {L : Nat → Nat → Int64} {R : zRt} {Q : zO → zM → Prop}
theorem lay_sz {i n : Nat} {tb : zTb} (hd : 1 ≤ d) (hM : ML y R) (hn : n ≤ 10) (hW : tW tb) (hN : tN n tb) (hT : mTb y I tb)
    (hQ : ∀ L', (∀ a, a ≠ y + 173 → L' a = L a) → (∀ k, k ≤ n → L' (y + 173) k = iL (szT tb (10 - k) : Int)) → Q (.inl none) (I, L', R)) :
    ∀ k, k ≤ n → ∀ (L1 : Nat → Nat → Int64) (x4 : Int32) (x5 x6 : Option zV), (∀ a, a ≠ y + 173 → L1 a = L a) → (∀ k', k ≤ k' → k' ≤ n → L1 (y + 173) k' = iL (szT tb (10 - k') : Int)) → x4 = iI ((k : Int) - 1) → zW 180 d 0 0 276 [some (zr (some y)), some (zi (iI (i : Int))), some (zi (iI (n : Int))), some (zi (iI 0)), some (zi x4), x5, x6] [] (I, L1, R) Q
  | 0, hk, L1, x4, x5, x6, f1, f2, e => by
    subst e
    refine zW.gbt [] rfl rfl rfl (by omega) trivial (by simp (disch := omega) only [eq_self, not_true_eq_false, not_false_eq_true, upI_same, upL_same, upI_ne, upL_ne, iI_ixN, zI_mk, zL_mk, zP_mk, zK_mk, zN_mk, zwI_up, zwL_up, zg_some, Nat.reduceMod, Nat.reduceDiv, zcn_I, iI_add, iI_sub, iI_mul, iI_neg, iI_lt, iI_le, iI_eq, iI_lt0, iI_le0, iI_gt0, iI_ge0, iI_eq0] <;> omega) ?_
    exact zW.gr [] rfl rfl rfl (by omega) trivial trivial (hQ L1 f1 (fun k hk => f2 k (Nat.zero_le _) hk))
  | k + 1, hk, L1, x4, x5, x6, f1, f2, e => by
    have e : x4 = iI (k : Int) := e.trans (iI_cg (by omega))
    subst e
    have k0 : R.2.1 y = some (7, 0) := hM.1
    have p8 : R.1 y 8 = some (y + 173) := (hM.2.1 8 (by decide)).1; have k8 : R.2.1 (y + 173) = some (21, 11) := (hM.2.1 8 (by decide)).2
    have c10 : ct (fun j => (tb k j).isSome) n ≤ n := ct_le _ _
    have v1 := f2 (k + 1) (Nat.le_refl _) hk
    have ek : (k : Int) + 1 = ((k + 1 : Nat) : Int) := by omega
    refine zW.gbf [] rfl rfl rfl (by omega) trivial (by simp (disch := omega) only [eq_self, not_true_eq_false, not_false_eq_true, upI_same, upL_same, upI_ne, upL_ne, iI_ixN, zI_mk, zL_mk, zP_mk, zK_mk, zN_mk, zwI_up, zwL_up, zg_some, Nat.reduceMod, Nat.reduceDiv, zcn_I, iI_add, iI_sub, iI_mul, iI_neg, iI_lt, iI_le, iI_eq, iI_lt0, iI_le0, iI_gt0, iI_ge0, iI_eq0] <;> omega) ?_
    refine zW.go [287] rfl (by omega) trivial ?_
    refine lay_ct (i := i) hd hM hn (by omega) hT (fun x6 => ?_) n 0 (by omega) _ _ (zcn_I _) (zcn_I _)
    refine zW.go [276] rfl (by omega) ?_ ?_
    · simp (disch := omega) only [true_or, or_true, eq_self, Option.some.injEq, Prod.mk.injEq, zall_0, zall_1, zall_2, zob_iff, zar_iff, zis_iff, zkIs_some, zkHas_some, iI_vp, z01_I, z01_bz, zch_I, true_and, and_true, or_false, false_or, and_self, upI_same, upL_same, upI_ne, upL_ne, iI_ixN, zI_mk, zL_mk, zP_mk, zK_mk, zN_mk, zwI_up, zwL_up, zg_some, Nat.reduceMod, Nat.reduceDiv, zcn_I, iI_add, iI_sub, iI_mul, iI_neg, iI_lt, iI_le, iI_eq, iI_lt0, iI_le0, iI_gt0, iI_ge0, iI_eq0, k0, p8, k8, ek]
      omega
    simp (disch := omega) only [upI_same, upL_same, upI_ne, upL_ne, iI_ixN, zI_mk, zL_mk, zP_mk, zK_mk, zN_mk, zwI_up, zwL_up, zg_some, Nat.reduceMod, Nat.reduceDiv, zcn_I, iI_add, iI_sub, iI_mul, iI_neg, iI_lt, iI_le, iI_eq, iI_lt0, iI_le0, iI_gt0, iI_ge0, iI_eq0, p8, ek, v1, iI_L, iL_mul]
    refine lay_sz hd hM hn hW hN hT hQ k (by omega) _ _ _ _ (fun a q => (upL_row q).trans (f1 a q)) (fun k' q1 q2 => ?_) ?_
    · by_cases q : k' = k
      · rw [q, upL_same, show 10 - k = (9 - k) + 1 by omega, cT_n hn hW hN (by omega)]
        show _ = iL ((szT tb (9 - k) * cT tb (9 - (9 - k)) : Nat) : Int)
        rw [show 9 - (9 - k) = k by omega, show 10 - (k + 1) = 9 - k by omega, Int.natCast_mul]
      · rw [upL_ne (by omega)]
        exact f2 k' (by omega) q2
    · first | rfl | exact iI_cg (by omega)
theorem mlay_ok {i : Nat} {x : Int32} (hd : 4 ≤ d) (h : mf y T (I, L, R)) (hi : i < tPn T) (e : x = iI (i : Int))
    (hQ : ∀ I' L' tb, scr y I L I' L' → (∀ k, I' y k = I y k) → mGr y (pzN (tPz T i)) (zA (pzR (tPz T i)) (pzT (tPz T i))) I' L' tb → Q (.inl none) (I', L', R)) : zS 180 d [zr (some y), zi x] (I, L, R) Q := by
  subst e
  have hM := h.2.1
  have k0 : R.2.1 y = some (7, 0) := hM.1
  obtain ⟨h4, hz, w1, w2, w3, w4, w5⟩ := m_pz h hi
  have hn := hz.2.1
  have hn3 := hz.1
  have hA := zA_pm hz
  have p1 : R.1 y 1 = some (y + 2) := (hM.2.1 1 (by decide)).1; have k1 : R.2.1 (y + 2) = some (20, 4) := (hM.2.1 1 (by decide)).2; have p8 : R.1 y 8 = some (y + 173) := (hM.2.1 8 (by decide)).1; have k8 : R.2.1 (y + 173) = some (21, 11) := (hM.2.1 8 (by decide)).2
  refine zW.go [9] rfl (by omega) (by simp (disch := omega) only [true_or, or_true, eq_self, Option.some.injEq, Prod.mk.injEq, zall_0, zall_1, zall_2, zob_iff, zar_iff, zis_iff, zkIs_some, zkHas_some, iI_vp, z01_I, z01_bz, zch_I, true_and, and_true, or_false, false_or, and_self, upI_same, upL_same, upI_ne, upL_ne, iI_ixN, zI_mk, zL_mk, zP_mk, zK_mk, zN_mk, zwI_up, zwL_up, zg_some, Nat.reduceMod, Nat.reduceDiv, zcn_I, iI_add, iI_sub, iI_mul, iI_neg, iI_lt, iI_le, iI_eq, iI_lt0, iI_le0, iI_gt0, iI_ge0, iI_eq0, k0, p1, k1] <;> omega) ?_
  simp (disch := omega) only [upI_same, upL_same, upI_ne, upL_ne, iI_ixN, zI_mk, zL_mk, zP_mk, zK_mk, zN_mk, zwI_up, zwL_up, zg_some, Nat.reduceMod, Nat.reduceDiv, zcn_I, iI_add, iI_sub, iI_mul, iI_neg, iI_lt, iI_le, iI_eq, iI_lt0, iI_le0, iI_gt0, iI_ge0, iI_eq0, p1, w1]
  refine lay_out (by omega) hM (fun I1 v4 x3 f1 t1 => ?_) 10 0 (by omega) I _ _ (fun _ _ => rfl) (fun a b q => absurd q (Nat.not_lt_zero a)) rfl
  refine zW.go [72] rfl (by omega) trivial ?_
  refine lay_id (by omega) hM (fun I2 x3 f2 t2 => ?_) 10 0 (by omega) I1 _ (fun _ _ => rfl) (fun p q => absurd q (Nat.not_lt_zero p)) (zcn_I _)
  have g0 : mGw y (pzN (tPz T i)) I I2 (zA (pzR (tPz T i)) (pzT (tPz T i))) tb0 := ⟨tb0_W, fun k j u hu => by rw [(tb0_1 hu).1]; exact pm_id _, mTb_fr t1 (fun a q1 q2 => f2 a (by omega)), fun k j u hu => by rw [(tb0_1 hu).1]; exact Gm_id _, fun p q1 q2 => t2 p q2, fun a q1 q2 q3 => (f2 a q2).trans (f1 a q1)⟩
  refine zW.go [96] rfl (by omega) trivial ?_
  refine lay_gen (by omega) h hi (fun I3 tb x3 x4 g hf h3 => ?_) (2 * pzR (tPz T i)) 0 (by omega) I2 tb0 _ _ g0 (fun b q => absurd q (Nat.not_lt_zero b)) (Or.inl ⟨zcn_I _, rfl⟩) (zcn_I _)
  have tp0 : tPairs tb0 := fun k j u k' j' v hu hv => by
    rw [(tb0_1 hu).1, (tb0_1 hv).1]
    exact Fl_id tb0_W
  have w1' : I (y + 2) i = iI (pzN (tPz T i) : Int) := w1
  have sc : ∀ a, ¬ scA y a → ¬ (y + 52 ≤ a ∧ a ≤ y + 172) ∧ a ≠ y + 174 ∧ a ≠ y + 176 := fun a q => by
    unfold scA at q
    omega
  refine lay_w (A := zA (pzR (tPz T i)) (pzT (tPz T i))) (B := zA (pzR (tPz T i)) (pzT (tPz T i))) (I := I) (by omega) hM h4 hn (by omega) hA w1' (fun I4 tb4 x4 x5 g4 hp hB => ?_) 101 I3 tb x3 x4 _ (Nat.le_add_right _ _) g (fun g ⟨k, hk, e⟩ => by rw [e]; exact hf _ (by omega)) (h3.imp (fun q => ⟨q.1, by rw [q.2]; exact tp0⟩) id)
  obtain ⟨u1, u2, u3, u4, u5, u6⟩ := g4
  refine zW.go [276] rfl (by omega) ?_ ?_
  · simp (disch := omega) only [true_or, or_true, eq_self, Option.some.injEq, Prod.mk.injEq, zall_0, zall_1, zall_2, zob_iff, zar_iff, zis_iff, zkIs_some, zkHas_some, iI_vp, z01_I, z01_bz, zch_I, true_and, and_true, or_false, false_or, and_self, upI_same, upL_same, upI_ne, upL_ne, iI_ixN, zI_mk, zL_mk, zP_mk, zK_mk, zN_mk, zwI_up, zwL_up, zg_some, Nat.reduceMod, Nat.reduceDiv, zcn_I, iI_add, iI_sub, iI_mul, iI_neg, iI_lt, iI_le, iI_eq, iI_lt0, iI_le0, iI_gt0, iI_ge0, iI_eq0, k0, p8, k8]
    omega
  simp (disch := omega) only [upI_same, upL_same, upI_ne, upL_ne, iI_ixN, zI_mk, zL_mk, zP_mk, zK_mk, zN_mk, zwI_up, zwL_up, zg_some, Nat.reduceMod, Nat.reduceDiv, zcn_I, iI_add, iI_sub, iI_mul, iI_neg, iI_lt, iI_le, iI_eq, iI_lt0, iI_le0, iI_gt0, iI_ge0, iI_eq0, p8]
  refine lay_sz (by omega) hM hn u1 u2 u3 (fun L' q1 q2 => ?_) (pzN (tPz T i)) (Nat.le_refl _) _ _ _ _ (fun a q => upL_row q) (fun k' q1 q2 => ?_) rfl
  · refine hQ I4 L' tb4 ⟨fun a q => u6 a (sc a q).1 (sc a q).2.1 (sc a q).2.2, fun k _ _ _ => congrFun (u6 y (by omega) (by omega) (by omega)) k, fun a q => q1 a q⟩ (fun k => congrFun (u6 y (by omega) (by omega) (by omega)) k) ⟨u1, u2, u3, u4, hp, hB, fun k hk => ?_⟩
    rw [q2 k hk, szT_orb hA u1 hp hB u4]
  · rw [show k' = pzN (tPz T i) by omega, upL_same, szT_n u1 u2 _ (Nat.le_refl _)]
    rfl
end MLYZ
