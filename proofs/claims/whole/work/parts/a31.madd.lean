/-! The model's groups: one added. -/
noncomputable def nT (tb : zTb) : Nat := ct (fun i => (tb (i / 10) (i % 10)).isSome) 100
theorem tSet_le {tb : zTb} {k : Nat} {u : Nat → Nat} (h : tb k (u k) = none) : tLe tb (tSet tb k u) := fun a b v hv => by
  unfold tSet
  rw [if_neg]
  · exact hv
  · rintro ⟨rfl, rfl⟩
    rw [h] at hv
    cases hv
theorem tSet_W {tb : zTb} {k : Nat} {u : Nat → Nat} (hW : tW tb) (hk : k < 10) (hu : pm 10 u) (hf : ∀ i, i < k → u i = i) (h : tb k (u k) = none) : tW (tSet tb k u) := by
  refine ⟨fun a b v hv => ?_, fun a ha => ?_⟩
  · unfold tSet at hv
    split at hv
    · rename_i e
      cases hv
      exact ⟨by omega, by rw [e.2]; exact hu.1 _ hk, hu, fun i hi => hf i (by omega), by rw [e.1, e.2]⟩
    · exact hW.1 _ _ _ hv
  · exact tSet_le h _ _ _ (hW.2 a ha)
theorem tSet_s {tb : zTb} {k : Nat} {u : Nat → Nat} : tSet tb k u k (u k) = some u := if_pos ⟨rfl, rfl⟩
theorem nT_lt {tb : zTb} {k : Nat} {u : Nat → Nat} (hk : k < 10) (hu : u k < 10) (h : tb k (u k) = none) : nT tb < nT (tSet tb k u) := by
  have e1 : (10 * k + u k) / 10 = k := by omega
  have e2 : (10 * k + u k) % 10 = u k := by omega
  refine ct_lt (i := 10 * k + u k) (fun i _ hi => ?_) (by omega) ?_ ?_
  · obtain ⟨v, hv⟩ := Option.isSome_iff_exists.mp hi
    rw [tSet_le h _ _ _ hv]
    rfl
  · rw [e1, e2, h]
    rfl
  · rw [e1, e2, tSet_s]
    rfl
/-- a table after one was added -/
def mAd (y n : Nat) (I I' : Nat → Nat → Int32) (tb tb' : zTb) (r : Nat → Nat) : Prop := tLe tb tb' ∧ tW tb' ∧ tN n tb' ∧ mTb y I' tb' ∧ Fl tb' 10 r ∧ (∀ A : (Nat → Nat) → Prop, (∀ g, A g → pm 10 g) → Gm A r → (∀ k j v, tb k j = some v → Gm A v) → ∀ k j v, tb' k j = some v → Gm A v) ∧ (∀ a, ¬ (y + 52 ≤ a ∧ a ≤ y + 172) → a ≠ y + 174 → a ≠ y + 176 → I' a = I a) ∧ ∀ p, n ≤ p → I' (y + 174) p = I (y + 174) p
section MADD
variable {d y : Nat} {I : Nat → Nat → Int32} {L : Nat → Nat → Int64} {R : zRt} {Q : zO → zM → Prop}
theorem madds_ok {i n : Nat} {tb : zTb} {r : Nat → Nat} {x : Int32} (hd : 2 ≤ d) (hM : ML y R) (e : x = iI (i : Int)) (hi : i < 4) (hn : n ≤ 10) (hW : tW tb) (hN : tN n tb) (hT : mTb y I tb) (vn : I (y + 2) i = iI (n : Int)) (hr : pm n r) (v9 : ∀ p, p < 10 → I (y + 174) p = iI (r p : Int))
    (hQ : ∀ I' tb' q, mAd y n I I' tb tb' r → (q = iI 0 ∧ tb' = tb ∨ q = iI 1 ∧ nT tb < nT tb') → Q (.inl (some (zi q))) (I', L, R)) : zS 179 d [zr (some y), zi x] (I, L, R) Q := by
  subst e
  have k0 : R.2.1 y = some (7, 0) := hM.1
  refine zW.gz [] rfl rfl rfl (by omega) trivial ⟨_, rfl, k0⟩ rfl rfl (by decide +kernel) (by decide +kernel) ?_
  refine msift_ok (by omega) hM rfl hi hn hW hN hT vn hr (fun p hp => v9 p (by omega)) (fun I1 f hF => ?_) (fun k r' I1 hk f hr' v9' hf ht hF hA => ?_)
  · refine zW.gbf [] rfl rfl rfl (by omega) trivial (by simp (disch := omega) only [eq_self, not_true_eq_false, not_false_eq_true, upI_same, upL_same, upI_ne, upL_ne, iI_ixN, zI_mk, zL_mk, zP_mk, zK_mk, zN_mk, zwI_up, zwL_up, zg_some, Nat.reduceMod, Nat.reduceDiv, zcn_I, iI_add, iI_sub, iI_mul, iI_neg, iI_lt, iI_le, iI_eq, iI_lt0, iI_le0, iI_gt0, iI_ge0, iI_eq0] <;> omega) ?_
    refine zW.gr [] rfl rfl rfl (by omega) trivial z01c0 ?_
    refine hQ I1 tb _ ⟨fun _ _ _ h => h, hW, hN, mTb_fr hT (fun a q1 q2 => f.1 a (by omega) (by omega)), hF, fun _ _ _ h => h, fun a q1 q2 q3 => f.1 a q2 q3, f.2⟩ (Or.inl ⟨zcn_I _, rfl⟩)
  · have rk := hr'.1 k hk
    have vk := v9' k hk
    have hr10 := pm_up hr' hn
    have le := tSet_le ht
    have tw' := tSet_W hW (by omega) hr10 hf ht
    have p6 : R.1 y 6 = some (y + 51) := (hM.2.1 6 (by decide)).1; have k6 : R.2.1 (y + 51) = some (29, 10) := (hM.2.1 6 (by decide)).2; have q6 : R.1 (y + 51) (k) = some (y + 52 + k) := (hM.2.2.2.2.2.1 (k) (by omega)).1.trans (congrArg some (by omega)); have j6 : R.2.1 (y + 52 + k) = some (22, 10) := (congrArg R.2.1 (by omega)).trans (hM.2.2.2.2.2.1 (k) (by omega)).2; have p7 : R.1 y 7 = some (y + 62) := (hM.2.1 7 (by decide)).1; have k7 : R.2.1 (y + 62) = some (26, 10) := (hM.2.1 7 (by decide)).2; have q7 : R.1 (y + 62) (k) = some (y + 63 + 11 * k) := (hM.2.2.2.2.2.2.1 (k) (by omega)).1.trans (congrArg some (by omega)); have j7 : R.2.1 (y + 63 + 11 * k) = some (25, 10) := (congrArg R.2.1 (by omega)).trans (hM.2.2.2.2.2.2.1 (k) (by omega)).2.1; have r7 : R.1 (y + 63 + 11 * k) (r' k) = some (y + 64 + 11 * k + r' k) := (congrFun (congrArg R.1 (show y + 63 + 11 * k = y + 62 + 1 + 11 * k by omega)) (r' k)).trans ((((hM.2.2.2.2.2.2.1 (k) (by omega)).2.2 (r' k) (by omega)).1).trans (congrArg some (by omega))); have s7 : R.2.1 (y + 64 + 11 * k + r' k) = some (20, 10) := (congrArg R.2.1 (by omega)).trans ((hM.2.2.2.2.2.2.1 (k) (by omega)).2.2 (r' k) (by omega)).2; have p9 : R.1 y 9 = some (y + 174) := (hM.2.1 9 (by decide)).1; have k9 : R.2.1 (y + 174) = some (20, 10) := (hM.2.1 9 (by decide)).2
    have l1 : zlenOf (upI I1 (y + 52 + k) (r' k) (iI 1), L, R) (some (y + 174)) = 10 := zlenOf_some k9
    have l2 : zlenOf (upI I1 (y + 52 + k) (r' k) (iI 1), L, R) (some (y + 64 + 11 * k + r' k)) = 10 := zlenOf_some s7
    have c10 : (zcn 10).toNatClampNeg = 10 := by decide +kernel
    refine zW.gbt [] rfl rfl rfl (by omega) trivial (by simp (disch := omega) only [eq_self, not_true_eq_false, not_false_eq_true, upI_same, upL_same, upI_ne, upL_ne, iI_ixN, zI_mk, zL_mk, zP_mk, zK_mk, zN_mk, zwI_up, zwL_up, zg_some, Nat.reduceMod, Nat.reduceDiv, zcn_I, iI_add, iI_sub, iI_mul, iI_neg, iI_lt, iI_le, iI_eq, iI_lt0, iI_le0, iI_gt0, iI_ge0, iI_eq0] <;> omega) ?_
    refine zW.gr [] rfl rfl rfl (by omega) ?_ z01c1 ?_
    · simp (disch := omega) only [true_or, or_true, eq_self, Option.some.injEq, Prod.mk.injEq, zall_0, zall_1, zall_2, zob_iff, zar_iff, zis_iff, zkIs_some, zkHas_some, iI_vp, z01_I, z01_bz, zch_I, true_and, and_true, or_false, false_or, and_self, upI_same, upL_same, upI_ne, upL_ne, iI_ixN, zI_mk, zL_mk, zP_mk, zK_mk, zN_mk, zwI_up, zwL_up, zg_some, Nat.reduceMod, Nat.reduceDiv, k0, p6, k6, q6, j6, p7, k7, q7, j7, r7, s7, p9, k9, vk, zcn_I, l1, l2, zkHas_some, c0i]
      exact ⟨by decide +kernel, by omega, by omega, by omega, by omega, by omega, by omega⟩
    simp (disch := omega) only [upI_same, upL_same, upI_ne, upL_ne, iI_ixN, zI_mk, zL_mk, zP_mk, zK_mk, zN_mk, zwI_up, zwL_up, zg_some, Nat.reduceMod, Nat.reduceDiv, p6, q6, p7, q7, r7, p9, vk, zcopy_up, zcn_I, c0i, show (iI 10).toNatClampNeg = 10 from by decide +kernel]
    obtain ⟨J, hJ⟩ : ∃ J, cpI (upI I1 (y + 52 + k) (r' k) (iI 1)) (y + 174) 0 (y + 64 + 11 * k + r' k) 0 10 = J := ⟨_, rfl⟩
    rw [hJ]
    have o1 : ∀ a, a ≠ y + 52 + k → a ≠ y + 64 + 11 * k + r' k → J a = I1 a := fun a q1 q2 => by rw [← hJ, cpI_row q2, upI_row q1]
    have a9 : ∀ p, p < 10 → I1 (y + 174) p = iI (r' p : Int) := fun p hp => by
      by_cases q : p < n
      · exact v9' p q
      · rw [f.2 p (by omega), v9 p hp, hr.2.2 p (by omega), hr'.2.2 p (by omega)]
    refine hQ J (tSet tb k r') _ ⟨le, tw', fun a b v hv => ?_, fun a b ha hb => ?_, ?_, fun A a1 a2 a3 a b v hv => ?_, fun a q1 q2 q3 => ?_, fun p q => ?_⟩ (Or.inr ⟨rfl, nT_lt (by omega) (by omega) ht⟩)
    · unfold tSet at hv
      split at hv
      · cases hv
        exact hr'
      · exact hN _ _ _ hv
    · obtain ⟨t1, t2⟩ := hT a b ha hb
      have t1' : I1 (y + 52 + a) b = bz (tb a b).isSome := by rw [f.1 _ (by omega) (by omega)]; exact t1
      by_cases q : a = k ∧ b = r' k
      · obtain ⟨rfl, rfl⟩ := q
        rw [tSet_s]
        refine ⟨?_, fun u hu p hp => ?_⟩
        · rw [← hJ, cpI_row (by omega), upI_same]
          rfl
        · cases hu
          rw [← hJ, cpI_in hp, upI_row (by omega)]
          exact a9 p hp
      · have es : tSet tb k r' a b = tb a b := if_neg q
        rw [es]
        refine ⟨?_, fun u hu p hp => ?_⟩
        · rw [← hJ, cpI_row (by omega)]
          by_cases q2 : a = k
          · rw [q2, upI_ne (by omega), ← q2]
            exact t1'
          · rw [upI_row (by omega)]
            exact t1'
        · rw [o1 _ (by omega) (by omega), f.1 _ (by omega) (by omega)]
          exact t2 u hu p hp
    · refine (hF _ le).mpr ?_
      rw [show 10 - k = (9 - k) + 1 by omega]
      refine ⟨r', ?_, ?_⟩
      · rw [show 9 - (9 - k) = k by omega]
        exact tSet_s
      · have e : (fun p => vi 10 r' (r' p)) = fun p => p := funext fun p => vi_l hr10 _
        rw [e]
        exact (Fl_all tw' (n := 9 - k) (by omega) (fun _ _ => rfl)).mp (Fl_id tw')
    · unfold tSet at hv
      split at hv
      · cases hv
        exact hA A a1 a2 a3
      · exact a3 _ _ _ hv
    · rw [o1 _ (by omega) (by omega)]
      exact f.1 a q2 q3
    · rw [o1 _ (by omega) (by omega)]
      exact f.2 p q
end MADD
