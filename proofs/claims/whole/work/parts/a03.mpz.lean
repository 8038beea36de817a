/-! The model's puzzles: behind, turned, first, solved. -/
def cpI (I : Nat → Nat → Int32) (s sp d dp n : Nat) : Nat → Nat → Int32 := fun b j => if b = d ∧ dp ≤ j ∧ j < dp + n then I s (sp + (j - dp)) else I b j
theorem zcopy_up (I : Nat → Nat → Int32) (L : Nat → Nat → Int64) (R : zRt) (s sp d dp n : Nat) : zcopy (I, L, R) s sp d dp n = (cpI I s sp d dp n, L, R) := rfl
theorem cpI_row {I : Nat → Nat → Int32} {s sp d dp n b : Nat} (h : b ≠ d) : cpI I s sp d dp n b = I b := funext fun _ => if_neg fun q => h q.1
theorem cpI_in {I : Nat → Nat → Int32} {s d n j : Nat} (h : j < n) : cpI I s 0 d 0 n d j = I s j := by
  unfold cpI
  rw [if_pos ⟨rfl, Nat.zero_le _, by omega⟩, Nat.sub_zero, Nat.zero_add]
theorem cpI_out {I : Nat → Nat → Int32} {s d n j : Nat} (h : n ≤ j) : cpI I s 0 d 0 n d j = I d j := if_neg (fun q => by omega)
theorem c0n : (zcn 0).toNatClampNeg = 0 := by decide +kernel
theorem c0i : (iI 0).toNatClampNeg = 0 := by decide +kernel
theorem mfo_of {y : Nat} {I I' : Nat → Nat → Int32} {L : Nat → Nat → Int64} (h : ∀ a, ¬ (y ≤ a ∧ a < y + 1941) → I' a = I a) : mfo y I L I' L := fun a q => ⟨h a q, rfl⟩
section MPZ
variable {d y : Nat} {T : tfT} {I : Nat → Nat → Int32} {L : Nat → Nat → Int64} {R : zRt} {Q : zO → zM → Prop}
/-- one puzzle's colours and pieces anew -/
theorem mf_pz {i : Nat} {w : zPz} {I' : Nat → Nat → Int32} {L' : Nat → Nat → Int64} (h : mf y T (I, L, R)) (hi : i < tPn T) (hz : zOK (pzN w) (pzR w) (pzT w) (pzC w) (pzS w)) (e1 : pzN w = pzN (tPz T i)) (e2 : pzR w = pzR (tPz T i)) (e3 : pzT w = pzT (tPz T i)) (f : ∀ a, ¬ scA y a → a ≠ y + 42 + i → a ≠ y + 47 + i → I' a = I a) (f0 : ∀ k, k ≠ 36 → k ≠ 37 → k ≠ 41 → I' y k = I y k) (hc : ∀ p, p < 10 → I' (y + 42 + i) p = iI (pzC w p : Int)) (hs : ∀ p, p < 10 → I' (y + 47 + i) p = iI (pzS w p : Int)) : mf y (tSetP T i w) (I', L', R) := by
  obtain ⟨hT, hM, hN, ⟨a1, a2⟩, ⟨b1, b2, b3⟩, ⟨c1, c2⟩, ⟨d1, d2⟩, ⟨g1, g2, g3⟩, g, l⟩ := h
  have hp4 := hT.2.1.1
  have hr8 := hT.2.2.2.2.1.1
  have hI : ∀ a, ¬ scA y a → ¬ (y + 42 ≤ a ∧ a ≤ y + 50) → I' a = I a := fun a q1 q2 => f a q1 (by omega) (by omega)
  have b2i : mPz y i I (tPz T i) := b2 i hi
  refine ⟨⟨hT.1, ⟨hT.2.1.1, fun k hk => ?_⟩, hT.2.2⟩, hM, hN, ⟨(f0 32 (by omega) (by omega) (by omega)).trans a1, ?_⟩, ⟨(f0 33 (by omega) (by omega) (by omega)).trans b1, fun k hk => ?_, fun k q1 q2 => ?_⟩, ⟨(f0 35 (by omega) (by omega) (by omega)).trans c1, ?_⟩, ⟨(f0 38 (by omega) (by omega) (by omega)).trans d1, fun c hc => ?_⟩, ⟨(f0 39 (by omega) (by omega) (by omega)).trans g1, fun j hj => mRd_cg (by have : j < tRn T := hj; omega) (g2 j hj) (fun a q1 q2 => hI a (fun q => by unfold scA at q; omega) (by omega)), fun j q1 q2 => mR0_cg q2 (g3 j q1 q2) (fun a q1 q2 => hI a (fun q => by unfold scA at q; omega) (by omega))⟩, (f0 40 (by omega) (by omega) (by omega)).trans g, ?_⟩
  · show zOK (pzN (if k = i then w else tPz T k)) (pzR (if k = i then w else tPz T k)) (pzT (if k = i then w else tPz T k)) (pzC (if k = i then w else tPz T k)) (pzS (if k = i then w else tPz T k))
    by_cases e : k = i
    · rw [if_pos e]
      exact hz
    · rw [if_neg e]
      exact hT.2.1.2 k hk
  · show hl (I' (y + 1)) _
    rw [hI _ (fun q => by unfold scA at q; omega) (by omega)]
    exact a2
  · show mPz y k I' (if k = i then w else tPz T k)
    have hk : k < tPn T := hk
    have hk4 : k < 4 := by omega
    by_cases e : k = i
    · subst e
      rw [if_pos rfl]
      refine ⟨?_, ?_, fun a p q1 q2 => ?_, hc, hs⟩
      · rw [hI _ (fun q => by unfold scA at q; omega) (by omega), e1]
        exact b2i.1
      · rw [hI _ (fun q => by unfold scA at q; omega) (by omega), e2]
        exact b2i.2.1
      · have hr4 := (hT.2.1.2 k hk).2.2.1
        rw [e2] at q1
        rw [hI _ (fun q => by unfold scA at q; omega) (by omega), e3]
        exact b2i.2.2.1 a p q1 q2
    · rw [if_neg e]
      refine mPz_cg (b2 k hk) (hT.2.1.2 k hk).2.2.1 ?_ ?_ (fun a ha => ?_) ?_ ?_
      · rw [hI _ (fun q => by unfold scA at q; omega) (by omega)]
      · rw [hI _ (fun q => by unfold scA at q; omega) (by omega)]
      · exact hI _ (fun q => by unfold scA at q; omega) (by omega)
      · exact f _ (fun q => by unfold scA at q; omega) (by omega) (by omega)
      · exact f _ (fun q => by unfold scA at q; omega) (by omega) (by omega)
  · have q1 : tPn T ≤ k := q1
    show I' (y + 3) k = iI 0
    rw [hI _ (fun q => by unfold scA at q; omega) (by omega)]
    exact b3 k q1 q2
  · show hl (I' (y + 1782)) _
    rw [hI _ (fun q => by unfold scA at q; omega) (by omega)]
    exact c2
  · show I' (y + 1784) c = _
    rw [hI _ (fun q => by unfold scA at q; omega) (by omega)]
    exact d2 c hc
  · have l' := mLd_cg l (f0 34 (by omega) (by omega) (by omega)) (fun a q1 q2 => hI a (fun q => by unfold scA at q; omega) (by omega))
    rcases l' with l' | ⟨p, p1, p2, p3, p4⟩
    · exact Or.inl l'
    · refine Or.inr ⟨p, p1, p2, ?_⟩
      show pzZ (if p = i then w else tPz T p) ≤ 800 ∧ ∀ k, k < pzZ (if p = i then w else tPz T p) → (∀ q, q < 10 → I' (y + 178 + k) q = iI (stG (pzG (if p = i then w else tPz T p)) k q : Int)) ∧ ∀ a, a < 2 * pzR (if p = i then w else tPz T p) → I' (y + 979 + k) a = iI (nxG (pzG (if p = i then w else tPz T p)) (pzT (if p = i then w else tPz T p)) a k : Int)
      by_cases e : p = i
      · subst e
        rw [if_pos rfl]
        have eG : pzG w = pzG (tPz T p) := by
          show zG (pzR w) (pzT w) = zG (pzR (tPz T p)) (pzT (tPz T p))
          rw [e2, e3]
        have eZ : pzZ w = pzZ (tPz T p) := by
          show szG (pzG w) 10 = szG (pzG (tPz T p)) 10
          rw [eG]
        rw [eZ, eG, e2, e3]
        exact ⟨p3, p4⟩
      · rw [if_neg e]
        exact ⟨p3, p4⟩
theorem behind_lp {n a b c na nb nc : Nat} {f g : Nat → Nat} (hd : 1 ≤ d) (ka : R.2.1 a = some (20, na)) (kb : R.2.1 b = some (20, nb)) (kc : R.2.1 c = some (20, nc)) (hab : a ≠ b) (hac : a ≠ c) (hn : n ≤ 10) (h1 : n ≤ na) (h2 : n ≤ nc) (hb10 : 10 ≤ nb) (hb : ∀ p, p < 10 → I b p = iI (f p : Int)) (hc : ∀ p, p < n → I c p = iI (g p : Int)) (hg : ∀ p, p < n → g p < 10)
    (hQ : ∀ I', (∀ r, r ≠ a → I' r = I r) → (∀ p, p < n → I' a p = iI (f (g p) : Int)) → (∀ p, n ≤ p → I' a p = I a p) → Q (.inl none) (I', L, R)) :
    ∀ m k, k + m = n → ∀ (I1 : Nat → Nat → Int32) (x : Int32), (∀ r, r ≠ a → I1 r = I r) → (∀ p, p < k → I1 a p = iI (f (g p) : Int)) → (∀ p, k ≤ p → I1 a p = I a p) → x = iI (k : Int) → zW 170 d 0 0 3 [some (zi (iI (n : Int))), some (zr (some a)), some (zr (some b)), some (zr (some c)), some (zi x)] [] (I1, L, R) Q
  | 0, k, hk, I1, x, f1, f2, f3, e => by
    subst e
    obtain rfl : k = n := by omega
    refine zW.gbt [] rfl rfl rfl (by omega) trivial (by simp (disch := omega) only [eq_self, not_true_eq_false, not_false_eq_true, upI_same, upL_same, upI_ne, upL_ne, iI_ixN, zI_mk, zL_mk, zP_mk, zK_mk, zN_mk, zwI_up, zwL_up, zg_some, Nat.reduceMod, Nat.reduceDiv, zcn_I, iI_add, iI_sub, iI_mul, iI_neg, iI_lt, iI_le, iI_eq, iI_lt0, iI_le0, iI_gt0, iI_ge0, iI_eq0] <;> omega) ?_
    exact zW.gr [] rfl rfl rfl (by omega) trivial trivial (hQ I1 f1 f2 f3)
  | m + 1, k, hk, I1, x, f1, f2, f3, e => by
    subst e
    have v1 : I1 c k = iI (g k : Int) := by
      rw [f1 c (fun q => hac q.symm)]
      exact hc k (by omega)
    have hgk := hg k (by omega)
    have v2 : I1 b (g k) = iI (f (g k) : Int) := by
      rw [f1 b (fun q => hab q.symm)]
      exact hb _ hgk
    refine zW.gbf [] rfl rfl rfl (by omega) trivial (by simp (disch := omega) only [eq_self, not_true_eq_false, not_false_eq_true, upI_same, upL_same, upI_ne, upL_ne, iI_ixN, zI_mk, zL_mk, zP_mk, zK_mk, zN_mk, zwI_up, zwL_up, zg_some, Nat.reduceMod, Nat.reduceDiv, zcn_I, iI_add, iI_sub, iI_mul, iI_neg, iI_lt, iI_le, iI_eq, iI_lt0, iI_le0, iI_gt0, iI_ge0, iI_eq0] <;> omega) ?_
    refine zW.go [3] rfl (by omega) ?_ ?_
    · simp (disch := omega) only [true_or, or_true, eq_self, Option.some.injEq, Prod.mk.injEq, zall_0, zall_1, zall_2, zob_iff, zar_iff, zis_iff, zkIs_some, zkHas_some, iI_vp, z01_I, z01_bz, zch_I, true_and, and_true, or_false, false_or, and_self, upI_same, upL_same, upI_ne, upL_ne, iI_ixN, zI_mk, zL_mk, zP_mk, zK_mk, zN_mk, zwI_up, zwL_up, zg_some, Nat.reduceMod, Nat.reduceDiv, zcn_I, iI_add, iI_sub, iI_mul, iI_neg, iI_lt, iI_le, iI_eq, iI_lt0, iI_le0, iI_gt0, iI_ge0, iI_eq0, ka, kb, kc, v1]
      omega
    · simp (disch := omega) only [upI_same, upL_same, upI_ne, upL_ne, iI_ixN, zI_mk, zL_mk, zP_mk, zK_mk, zN_mk, zwI_up, zwL_up, zg_some, Nat.reduceMod, Nat.reduceDiv, v1, v2]
      refine behind_lp hd ka kb kc hab hac hn h1 h2 hb10 hb hc hg hQ m (k + 1) (by omega) _ _ (fun r hr => (upI_row hr).trans (f1 r hr)) (fun p hp => ?_) (fun p hp => (upI_ne (by omega)).trans (f3 p (by omega))) (by rw [zcn_I, iI_add]; rfl)
      by_cases e : p = k
      · rw [e, upI_same]
      · rw [upI_ne (by omega)]
        exact f2 p (by omega)
theorem behind_ok {n a b c na nb nc : Nat} {f g : Nat → Nat} {x : Int32} (hd : 1 ≤ d) (e : x = iI (n : Int)) (ka : R.2.1 a = some (20, na)) (kb : R.2.1 b = some (20, nb)) (kc : R.2.1 c = some (20, nc)) (hab : a ≠ b) (hac : a ≠ c) (hn : n ≤ 10) (h1 : n ≤ na) (h2 : n ≤ nc) (hb10 : 10 ≤ nb) (hb : ∀ p, p < 10 → I b p = iI (f p : Int)) (hc : ∀ p, p < n → I c p = iI (g p : Int)) (hg : ∀ p, p < n → g p < 10)
    (hQ : ∀ I', (∀ r, r ≠ a → I' r = I r) → (∀ p, p < n → I' a p = iI (f (g p) : Int)) → (∀ p, n ≤ p → I' a p = I a p) → Q (.inl none) (I', L, R)) : zS 170 d [zi x, zr (some a), zr (some b), zr (some c)] (I, L, R) Q := by
  subst e
  refine zW.go [3] rfl (by omega) trivial ?_
  exact behind_lp hd ka kb kc hab hac hn h1 h2 hb10 hb hc hg hQ n 0 (by omega) I _ (fun _ _ => rfl) (fun p q => absurd q (Nat.not_lt_zero p)) (fun _ _ => rfl) (zcn_I _)
/-- a puzzle's facts -/
theorem m_pz {i : Nat} (h : mf y T (I, L, R)) (hi : i < tPn T) : i < 4 ∧ zOK (pzN (tPz T i)) (pzR (tPz T i)) (pzT (tPz T i)) (pzC (tPz T i)) (pzS (tPz T i)) ∧ mPz y i I (tPz T i) := ⟨by have := h.1.2.1.1; omega, h.1.2.1.2 i hi, h.2.2.2.2.1.2.1 i hi⟩
theorem turned_ok {i a : Nat} {x z : Int32} (hd : 2 ≤ d) (h : mf y T (I, L, R)) (hi : i < tPn T) (ha : a < 2 * pzR (tPz T i)) (e1 : x = iI (i : Int)) (e2 : z = iI (a : Int))
    (hQ : ∀ I', mf y (tSetP T i (pzSt (tPz T i) (fun p => pzS (tPz T i) (pzT (tPz T i) a p)))) (I', L, R) → mfo y I L I' L → I' y = I y → (∀ r, r ≠ y + 47 + i → r ≠ y + 175 → I' r = I r) → Q (.inl none) (I', L, R)) : zS 171 d [zr (some y), zi x, zi z] (I, L, R) Q := by
  subst e1; subst e2
  have hM := h.2.1
  have k0 : R.2.1 y = some (7, 0) := hM.1
  obtain ⟨h4, hz, w1, w2, w3, w4, w5⟩ := m_pz h hi
  have hn := hz.2.1
  have hr4 := hz.2.2.1
  have hp := hz.2.2.2.1 a ha
  have hst := hz.2.2.2.2.2.2.2.2
  have p1 : R.1 y 1 = some (y + 2) := (hM.2.1 1 (by decide)).1; have k1 : R.2.1 (y + 2) = some (20, 4) := (hM.2.1 1 (by decide)).2; have p3 : R.1 y 3 = some (y + 4) := (hM.2.1 3 (by decide)).1; have k3 : R.2.1 (y + 4) = some (26, 4) := (hM.2.1 3 (by decide)).2; have p5 : R.1 y 5 = some (y + 46) := (hM.2.1 5 (by decide)).1; have k5 : R.2.1 (y + 46) = some (25, 4) := (hM.2.1 5 (by decide)).2; have p10 : R.1 y 10 = some (y + 175) := (hM.2.1 10 (by decide)).1; have k10 : R.2.1 (y + 175) = some (20, 10) := (hM.2.1 10 (by decide)).2; have q5 : R.1 (y + 46) (i) = some (y + 47 + i) := (hM.2.2.2.2.1 (i) (by omega)).1.trans (congrArg some (by omega)); have j5 : R.2.1 (y + 47 + i) = some (20, 10) := (congrArg R.2.1 (by omega)).trans (hM.2.2.2.2.1 (i) (by omega)).2; have q3 : R.1 (y + 4) (i) = some (y + 5 + 9 * i) := (hM.2.2.1 (i) (by omega)).1.trans (congrArg some (by omega)); have j3 : R.2.1 (y + 5 + 9 * i) = some (25, 8) := (congrArg R.2.1 (by omega)).trans (hM.2.2.1 (i) (by omega)).2.1; have r3 : R.1 (y + 5 + 9 * i) (a) = some (y + 6 + 9 * i + a) := (congrFun (congrArg R.1 (show y + 5 + 9 * i = y + 4 + 1 + 9 * i by omega)) (a)).trans ((((hM.2.2.1 (i) (by omega)).2.2 (a) (by omega)).1).trans (congrArg some (by omega))); have s3 : R.2.1 (y + 6 + 9 * i + a) = some (20, 10) := (congrArg R.2.1 (by omega)).trans ((hM.2.2.1 (i) (by omega)).2.2 (a) (by omega)).2
  refine zW.gz [] rfl rfl rfl (by omega) ?_ trivial rfl rfl (by decide +kernel) (by decide +kernel) ?_
  · exact (by simp (disch := omega) only [true_or, or_true, eq_self, Option.some.injEq, Prod.mk.injEq, zall_0, zall_1, zall_2, zob_iff, zar_iff, zis_iff, zkIs_some, zkHas_some, iI_vp, z01_I, z01_bz, zch_I, true_and, and_true, or_false, false_or, and_self, upI_same, upL_same, upI_ne, upL_ne, iI_ixN, zI_mk, zL_mk, zP_mk, zK_mk, zN_mk, zwI_up, zwL_up, zg_some, Nat.reduceMod, Nat.reduceDiv, zcn_I, iI_add, iI_sub, iI_mul, iI_neg, iI_lt, iI_le, iI_eq, iI_lt0, iI_le0, iI_gt0, iI_ge0, iI_eq0, k0, p1, k1, p10, p5, k5, q5, p3, k3, q3, j3] <;> omega)
  simp (disch := omega) only [upI_same, upL_same, upI_ne, upL_ne, iI_ixN, zI_mk, zL_mk, zP_mk, zK_mk, zN_mk, zwI_up, zwL_up, zg_some, Nat.reduceMod, Nat.reduceDiv, zcn_I, iI_add, iI_sub, iI_mul, iI_neg, iI_lt, iI_le, iI_eq, iI_lt0, iI_le0, iI_gt0, iI_ge0, iI_eq0, p1, p10, p5, q5, p3, q3, r3, w1]
  refine behind_ok (f := pzS (tPz T i)) (g := pzT (tPz T i) a) (by omega) rfl k10 j5 s3 (by omega) (by omega) hn hn hn (by omega) w5 (fun p hp' => w3 a p ha (by omega)) (fun p hp' => by have := hp.1 p hp'; omega) (fun I1 f1 f2 f3 => ?_)
  have v1 : I1 (y + 2) i = iI (pzN (tPz T i) : Int) := by
    rw [f1 _ (by omega)]
    exact w1
  have l1 : zlenOf (I1, L, R) (some (y + 175)) = 10 := zlenOf_some k10
  have l2 : zlenOf (I1, L, R) (some (y + 47 + i)) = 10 := zlenOf_some j5
  refine zW.gr [] rfl rfl rfl (by omega) ?_ trivial ?_
  · simp (disch := omega) only [true_or, or_true, eq_self, Option.some.injEq, Prod.mk.injEq, zall_0, zall_1, zall_2, zob_iff, zar_iff, zis_iff, zkIs_some, zkHas_some, iI_vp, z01_I, z01_bz, zch_I, true_and, and_true, or_false, false_or, and_self, upI_same, upL_same, upI_ne, upL_ne, iI_ixN, zI_mk, zL_mk, zP_mk, zK_mk, zN_mk, zwI_up, zwL_up, zg_some, Nat.reduceMod, Nat.reduceDiv, zcn_I, iI_add, iI_sub, iI_mul, iI_neg, iI_lt, iI_le, iI_eq, iI_lt0, iI_le0, iI_gt0, iI_ge0, iI_eq0, k0, p10, p5, k5, q5, p1, k1, v1, k10, j5, l1, l2, zkHas_some, Int.toNat_natCast, iI_ixN, c0i, c0n]
    omega
  simp (disch := omega) only [upI_same, upL_same, upI_ne, upL_ne, iI_ixN, zI_mk, zL_mk, zP_mk, zK_mk, zN_mk, zwI_up, zwL_up, zg_some, Nat.reduceMod, Nat.reduceDiv, zcopy_up, p10, p5, q5, p1, v1, c0n]
  have hst2 : pm (pzN (tPz T i)) (fun p => pzS (tPz T i) (pzT (tPz T i) a p)) := pm_comp hst hp
  refine hQ _ (mf_pz (w := pzSt (tPz T i) (fun p => pzS (tPz T i) (pzT (tPz T i) a p))) h hi (zOK_st hz hst2) rfl rfl rfl (fun r q1 q2 q3 => ?_) (fun k _ _ _ => ?_) (fun p hp10 => ?_) (fun p hp10 => ?_)) (mfo_of fun r q => ?_) ?_ (fun r q1 q2 => ?_)
  · rw [cpI_row q3]
    exact f1 r (fun e => q1 (by unfold scA; omega))
  · rw [cpI_row (by omega)]
    rw [f1 _ (by omega)]
  · rw [cpI_row (by omega), f1 _ (by omega)]
    exact w4 p hp10
  · show cpI I1 (y + 175) 0 (y + 47 + i) 0 (pzN (tPz T i)) (y + 47 + i) p = iI (pzS (tPz T i) (pzT (tPz T i) a p) : Int)
    by_cases c : p < pzN (tPz T i)
    · rw [cpI_in c]
      exact f2 p c
    · rw [cpI_out (by omega), f1 _ (by omega), hp.2.2 p (by omega)]
      exact w5 p hp10
  · rw [cpI_row (by omega)]
    exact f1 r (by omega)
  · rw [cpI_row (by omega)]
    exact f1 y (by omega)
  · rw [cpI_row q1]
    exact f1 r q2
/-- a state made the first one; how many pieces were elsewhere -/
theorem first_lp {i : Nat} (hd : 1 ≤ d) (h : mf y T (I, L, R)) (hi : i < tPn T)
    (hQ : ∀ I', mf y (tSetP T i (pzSt (tPz T i) (fun p => p))) (I', L, R) → mfo y I L I' L → I' y = I y → Q (.inl (some (zi (iI (nst (pzS (tPz T i)) : Int))))) (I', L, R)) :
    ∀ m k, k + m = pzN (tPz T i) → ∀ (I1 : Nat → Nat → Int32) (x z : Int32), (∀ r, r ≠ y + 47 + i → I1 r = I r) → (∀ p, p < k → I1 (y + 47 + i) p = iI (p : Int)) → (∀ p, k ≤ p → I1 (y + 47 + i) p = I (y + 47 + i) p) → x = iI (ct (fun q => !(pzS (tPz T i) q == q)) k : Int) → z = iI (k : Int) → zW 167 d 0 0 4 [some (zr (some y)), some (zi (iI (i : Int))), some (zi x), some (zi z)] [] (I1, L, R) Q
  | 0, k, hk, I1, x, z, f1, f2, f3, e1, e2 => by
    subst e1; subst e2
    have hM := h.2.1
    have k0 : R.2.1 y = some (7, 0) := hM.1
    obtain ⟨h4, hz, w1, w2, w3, w4, w5⟩ := m_pz h hi
    have hn := hz.2.1
    have hst := hz.2.2.2.2.2.2.2.2
    have p1 : R.1 y 1 = some (y + 2) := (hM.2.1 1 (by decide)).1; have k1 : R.2.1 (y + 2) = some (20, 4) := (hM.2.1 1 (by decide)).2; have p5 : R.1 y 5 = some (y + 46) := (hM.2.1 5 (by decide)).1; have k5 : R.2.1 (y + 46) = some (25, 4) := (hM.2.1 5 (by decide)).2; have q5 : R.1 (y + 46) (i) = some (y + 47 + i) := (hM.2.2.2.2.1 (i) (by omega)).1.trans (congrArg some (by omega)); have j5 : R.2.1 (y + 47 + i) = some (20, 10) := (congrArg R.2.1 (by omega)).trans (hM.2.2.2.2.1 (i) (by omega)).2
    have v1 : I1 (y + 2) i = iI (pzN (tPz T i) : Int) := by
      rw [f1 _ (by omega)]
      exact w1
    obtain rfl : k = pzN (tPz T i) := by omega
    refine zW.gbt [] rfl rfl rfl (by omega) (by simp (disch := omega) only [true_or, or_true, eq_self, Option.some.injEq, Prod.mk.injEq, zall_0, zall_1, zall_2, zob_iff, zar_iff, zis_iff, zkIs_some, zkHas_some, iI_vp, z01_I, z01_bz, zch_I, true_and, and_true, or_false, false_or, and_self, upI_same, upL_same, upI_ne, upL_ne, iI_ixN, zI_mk, zL_mk, zP_mk, zK_mk, zN_mk, zwI_up, zwL_up, zg_some, Nat.reduceMod, Nat.reduceDiv, zcn_I, iI_add, iI_sub, iI_mul, iI_neg, iI_lt, iI_le, iI_eq, iI_lt0, iI_le0, iI_gt0, iI_ge0, iI_eq0, k0, p1, k1] <;> omega) (by simp (disch := omega) only [eq_self, not_true_eq_false, not_false_eq_true, upI_same, upL_same, upI_ne, upL_ne, iI_ixN, zI_mk, zL_mk, zP_mk, zK_mk, zN_mk, zwI_up, zwL_up, zg_some, Nat.reduceMod, Nat.reduceDiv, zcn_I, iI_add, iI_sub, iI_mul, iI_neg, iI_lt, iI_le, iI_eq, iI_lt0, iI_le0, iI_gt0, iI_ge0, iI_eq0, p1, v1] <;> omega) ?_
    refine zW.gr [] rfl rfl rfl (by omega) trivial trivial ?_
    have e : ct (fun q => !(pzS (tPz T i) q == q)) (pzN (tPz T i)) = nst (pzS (tPz T i)) := by
      unfold nst
      have := ct_more (b := fun q => !(pzS (tPz T i) q == q)) (n := pzN (tPz T i)) (m := 10 - pzN (tPz T i)) (fun k q1 q2 => by rw [hst.2.2 k q1]; simp)
      rw [show pzN (tPz T i) + (10 - pzN (tPz T i)) = 10 by omega] at this
      exact this.symm
    rw [e]
    refine hQ _ (mf_pz (w := pzSt (tPz T i) (fun p => p)) h hi (zOK_st hz (pm_id _)) rfl rfl rfl (fun r q1 q2 q3 => f1 r q3) (fun k _ _ _ => by rw [f1 _ (by omega)]) (fun p hp10 => by rw [f1 _ (by omega)]; exact w4 p hp10) (fun p hp10 => ?_)) (mfo_of fun r q => f1 r (by omega)) (f1 y (by omega))
    by_cases c : p < pzN (tPz T i)
    · exact f2 p c
    · rw [f3 p (by omega), w5 p hp10, hst.2.2 p (by omega)]
      rfl
  | m + 1, k, hk, I1, x, z, f1, f2, f3, e1, e2 => by
    subst e1; subst e2
    have hM := h.2.1
    have k0 : R.2.1 y = some (7, 0) := hM.1
    obtain ⟨h4, hz, w1, w2, w3, w4, w5⟩ := m_pz h hi
    have hn := hz.2.1
    have hst := hz.2.2.2.2.2.2.2.2
    have p1 : R.1 y 1 = some (y + 2) := (hM.2.1 1 (by decide)).1; have k1 : R.2.1 (y + 2) = some (20, 4) := (hM.2.1 1 (by decide)).2; have p5 : R.1 y 5 = some (y + 46) := (hM.2.1 5 (by decide)).1; have k5 : R.2.1 (y + 46) = some (25, 4) := (hM.2.1 5 (by decide)).2; have q5 : R.1 (y + 46) (i) = some (y + 47 + i) := (hM.2.2.2.2.1 (i) (by omega)).1.trans (congrArg some (by omega)); have j5 : R.2.1 (y + 47 + i) = some (20, 10) := (congrArg R.2.1 (by omega)).trans (hM.2.2.2.2.1 (i) (by omega)).2
    have v1 : I1 (y + 2) i = iI (pzN (tPz T i) : Int) := by
      rw [f1 _ (by omega)]
      exact w1
    have v5 : I1 (y + 47 + i) k = iI (pzS (tPz T i) k : Int) := by
      rw [f3 k (Nat.le_refl _)]
      exact w5 k (by omega)
    have hsk := hst.1 k (by omega)
    have NX : ∀ (x : Int32) (e : Nat), x = iI (e : Int) → ct (fun q => !(pzS (tPz T i) q == q)) (k + 1) = ct (fun q => !(pzS (tPz T i) q == q)) k + e → zW 167 d 0 0 32 [some (zr (some y)), some (zi (iI (i : Int))), some (zi (iI (ct (fun q => !(pzS (tPz T i) q == q)) k : Int))), some (zi (iI (k : Int)))] [zi x, zi (iI (ct (fun q => !(pzS (tPz T i) q == q)) k : Int))] (I1, L, R) Q := fun x e ex hx => by
      subst ex
      refine zW.go [4] rfl (by omega) (by simp (disch := omega) only [true_or, or_true, eq_self, Option.some.injEq, Prod.mk.injEq, zall_0, zall_1, zall_2, zob_iff, zar_iff, zis_iff, zkIs_some, zkHas_some, iI_vp, z01_I, z01_bz, zch_I, true_and, and_true, or_false, false_or, and_self, upI_same, upL_same, upI_ne, upL_ne, iI_ixN, zI_mk, zL_mk, zP_mk, zK_mk, zN_mk, zwI_up, zwL_up, zg_some, Nat.reduceMod, Nat.reduceDiv, zcn_I, iI_add, iI_sub, iI_mul, iI_neg, iI_lt, iI_le, iI_eq, iI_lt0, iI_le0, iI_gt0, iI_ge0, iI_eq0, k0, p5, k5, q5, j5] <;> omega) ?_
      simp (disch := omega) only [upI_same, upL_same, upI_ne, upL_ne, iI_ixN, zI_mk, zL_mk, zP_mk, zK_mk, zN_mk, zwI_up, zwL_up, zg_some, Nat.reduceMod, Nat.reduceDiv, p5, q5]
      refine first_lp hd h hi hQ m (k + 1) (by omega) _ _ _ (fun r hr => (upI_row hr).trans (f1 r hr)) (fun p hp => ?_) (fun p hp => (upI_ne (by omega)).trans (f3 p (by omega))) (by rw [iI_add, hx]; rfl) (by rw [zcn_I, iI_add]; rfl)
      by_cases e : p = k
      · rw [e, upI_same]
      · rw [upI_ne (by omega)]
        exact f2 p (by omega)
    refine zW.gbf [] rfl rfl rfl (by omega) (by simp (disch := omega) only [true_or, or_true, eq_self, Option.some.injEq, Prod.mk.injEq, zall_0, zall_1, zall_2, zob_iff, zar_iff, zis_iff, zkIs_some, zkHas_some, iI_vp, z01_I, z01_bz, zch_I, true_and, and_true, or_false, false_or, and_self, upI_same, upL_same, upI_ne, upL_ne, iI_ixN, zI_mk, zL_mk, zP_mk, zK_mk, zN_mk, zwI_up, zwL_up, zg_some, Nat.reduceMod, Nat.reduceDiv, zcn_I, iI_add, iI_sub, iI_mul, iI_neg, iI_lt, iI_le, iI_eq, iI_lt0, iI_le0, iI_gt0, iI_ge0, iI_eq0, k0, p1, k1] <;> omega) (by simp (disch := omega) only [eq_self, not_true_eq_false, not_false_eq_true, upI_same, upL_same, upI_ne, upL_ne, iI_ixN, zI_mk, zL_mk, zP_mk, zK_mk, zN_mk, zwI_up, zwL_up, zg_some, Nat.reduceMod, Nat.reduceDiv, zcn_I, iI_add, iI_sub, iI_mul, iI_neg, iI_lt, iI_le, iI_eq, iI_lt0, iI_le0, iI_gt0, iI_ge0, iI_eq0, p1, v1] <;> omega) ?_
    refine zW.gb [] rfl rfl rfl (by omega) (by simp (disch := omega) only [true_or, or_true, eq_self, Option.some.injEq, Prod.mk.injEq, zall_0, zall_1, zall_2, zob_iff, zar_iff, zis_iff, zkIs_some, zkHas_some, iI_vp, z01_I, z01_bz, zch_I, true_and, and_true, or_false, false_or, and_self, upI_same, upL_same, upI_ne, upL_ne, iI_ixN, zI_mk, zL_mk, zP_mk, zK_mk, zN_mk, zwI_up, zwL_up, zg_some, Nat.reduceMod, Nat.reduceDiv, zcn_I, iI_add, iI_sub, iI_mul, iI_neg, iI_lt, iI_le, iI_eq, iI_lt0, iI_le0, iI_gt0, iI_ge0, iI_eq0, k0, p5, k5, q5, j5] <;> omega) (fun h' => ?_) (fun h' => ?_)
    · simp (disch := omega) only [zcn_I, iI_add, iI_sub, iI_mul, iI_neg, iI_lt, iI_le, iI_eq, iI_lt0, iI_le0, iI_gt0, iI_ge0, iI_eq0, upI_same, upL_same, upI_ne, upL_ne, iI_ixN, zI_mk, zL_mk, zP_mk, zK_mk, zN_mk, zwI_up, zwL_up, zg_some, Nat.reduceMod, Nat.reduceDiv, p5, q5, v5] at h'
      refine zW.go [32] rfl (by omega) trivial (NX _ 1 (zcn_I _) ?_)
      exact congrArg (fun b : Bool => ct (fun q => !(pzS (tPz T i) q == q)) k + (if b then 1 else 0)) (show (!(pzS (tPz T i) k == k)) = true by simp; omega)
    · simp (disch := omega) only [zcn_I, iI_add, iI_sub, iI_mul, iI_neg, iI_lt, iI_le, iI_eq, iI_lt0, iI_le0, iI_gt0, iI_ge0, iI_eq0, upI_same, upL_same, upI_ne, upL_ne, iI_ixN, zI_mk, zL_mk, zP_mk, zK_mk, zN_mk, zwI_up, zwL_up, zg_some, Nat.reduceMod, Nat.reduceDiv, p5, q5, v5] at h'
      refine zW.go [32] rfl (by omega) trivial (NX _ 0 (zcn_I _) ?_)
      exact congrArg (fun b : Bool => ct (fun q => !(pzS (tPz T i) q == q)) k + (if b then 1 else 0)) (show (!(pzS (tPz T i) k == k)) = false by simp; omega)
theorem first_ok {i : Nat} {x : Int32} (hd : 1 ≤ d) (h : mf y T (I, L, R)) (hi : i < tPn T) (e : x = iI (i : Int))
    (hQ : ∀ I', mf y (tSetP T i (pzSt (tPz T i) (fun p => p))) (I', L, R) → mfo y I L I' L → I' y = I y → Q (.inl (some (zi (iI (nst (pzS (tPz T i)) : Int))))) (I', L, R)) : zS 167 d [zr (some y), zi x] (I, L, R) Q := by
  subst e
  refine zW.go [4] rfl (by omega) trivial ?_
  exact first_lp hd h hi hQ (pzN (tPz T i)) 0 (by omega) I _ _ (fun _ _ => rfl) (fun p q => absurd q (Nat.not_lt_zero p)) (fun _ _ => rfl) (zcn_I _) (zcn_I _)
/-- are the colours at each place those of the place -/
theorem solvB_lp {i b : Nat} {f : Nat → Nat} (hd : 1 ≤ d) (h : mf y T (I, L, R)) (hi : i < tPn T) (kb : R.2.1 b = some (20, 10)) (hb : ∀ p, p < 10 → I b p = iI (f p : Int)) (hf : ∀ p, p < 10 → f p < 10)
    (hQ : ∀ q, tru (∀ p, p < pzN (tPz T i) → pzC (tPz T i) (f p) = pzC (tPz T i) p) q → Q (.inl (some (zi q))) (I, L, R)) :
    ∀ m k, k + m = pzN (tPz T i) → ∀ (x z : Int32), tru (∀ p, p < k → pzC (tPz T i) (f p) = pzC (tPz T i) p) x → z = iI (k : Int) → zW 176 d 0 0 5 [some (zr (some y)), some (zi (iI (i : Int))), some (zr (some b)), some (zi x), some (zi z)] [] (I, L, R) Q
  | 0, k, hk, x, z, hx, e2 => by
    subst e2
    have hM := h.2.1
    have k0 : R.2.1 y = some (7, 0) := hM.1
    obtain ⟨h4, hz, w1, w2, w3, w4, w5⟩ := m_pz h hi
    have hn := hz.2.1
    have p1 : R.1 y 1 = some (y + 2) := (hM.2.1 1 (by decide)).1; have k1 : R.2.1 (y + 2) = some (20, 4) := (hM.2.1 1 (by decide)).2
    obtain rfl : k = pzN (tPz T i) := by omega
    refine zW.gbt [] rfl rfl rfl (by omega) (by simp (disch := omega) only [true_or, or_true, eq_self, Option.some.injEq, Prod.mk.injEq, zall_0, zall_1, zall_2, zob_iff, zar_iff, zis_iff, zkIs_some, zkHas_some, iI_vp, z01_I, z01_bz, zch_I, true_and, and_true, or_false, false_or, and_self, upI_same, upL_same, upI_ne, upL_ne, iI_ixN, zI_mk, zL_mk, zP_mk, zK_mk, zN_mk, zwI_up, zwL_up, zg_some, Nat.reduceMod, Nat.reduceDiv, zcn_I, iI_add, iI_sub, iI_mul, iI_neg, iI_lt, iI_le, iI_eq, iI_lt0, iI_le0, iI_gt0, iI_ge0, iI_eq0, k0, p1, k1] <;> omega) (by simp (disch := omega) only [eq_self, not_true_eq_false, not_false_eq_true, upI_same, upL_same, upI_ne, upL_ne, iI_ixN, zI_mk, zL_mk, zP_mk, zK_mk, zN_mk, zwI_up, zwL_up, zg_some, Nat.reduceMod, Nat.reduceDiv, zcn_I, iI_add, iI_sub, iI_mul, iI_neg, iI_lt, iI_le, iI_eq, iI_lt0, iI_le0, iI_gt0, iI_ge0, iI_eq0, p1, w1] <;> omega) ?_
    exact zW.gr [] rfl rfl rfl (by omega) trivial (tru_01 hx) (hQ _ hx)
  | m + 1, k, hk, x, z, hx, e2 => by
    subst e2
    have hM := h.2.1
    have k0 : R.2.1 y = some (7, 0) := hM.1
    obtain ⟨h4, hz, w1, w2, w3, w4, w5⟩ := m_pz h hi
    have hn := hz.2.1
    have p1 : R.1 y 1 = some (y + 2) := (hM.2.1 1 (by decide)).1; have k1 : R.2.1 (y + 2) = some (20, 4) := (hM.2.1 1 (by decide)).2; have p4 : R.1 y 4 = some (y + 41) := (hM.2.1 4 (by decide)).1; have k4 : R.2.1 (y + 41) = some (25, 4) := (hM.2.1 4 (by decide)).2; have q4 : R.1 (y + 41) (i) = some (y + 42 + i) := (hM.2.2.2.1 (i) (by omega)).1.trans (congrArg some (by omega)); have j4 : R.2.1 (y + 42 + i) = some (20, 10) := (congrArg R.2.1 (by omega)).trans (hM.2.2.2.1 (i) (by omega)).2
    have v1 := hb k (by omega)
    have hfk := hf k (by omega)
    have v2 := w4 (f k) hfk
    have v3 := w4 k (by omega)
    have c1 := hz.2.2.2.2.2.2.1 (f k) hfk
    have c2 := hz.2.2.2.2.2.2.1 k (by omega)
    have NX : ∀ u : Int32, tru (pzC (tPz T i) (f k) = pzC (tPz T i) k) u → zW 176 d 0 0 45 [some (zr (some y)), some (zi (iI (i : Int))), some (zr (some b)), some (zi x), some (zi (iI (k : Int)))] [zi u, zi x] (I, L, R) Q := fun u hu => by
      refine zW.go [5] rfl (by omega) trivial ?_
      exact solvB_lp hd h hi kb hb hf hQ m (k + 1) (by omega) _ _ (tru_cg all_s (tru_and hx hu)) (by rw [zcn_I, iI_add]; rfl)
    refine zW.gbf [] rfl rfl rfl (by omega) (by simp (disch := omega) only [true_or, or_true, eq_self, Option.some.injEq, Prod.mk.injEq, zall_0, zall_1, zall_2, zob_iff, zar_iff, zis_iff, zkIs_some, zkHas_some, iI_vp, z01_I, z01_bz, zch_I, true_and, and_true, or_false, false_or, and_self, upI_same, upL_same, upI_ne, upL_ne, iI_ixN, zI_mk, zL_mk, zP_mk, zK_mk, zN_mk, zwI_up, zwL_up, zg_some, Nat.reduceMod, Nat.reduceDiv, zcn_I, iI_add, iI_sub, iI_mul, iI_neg, iI_lt, iI_le, iI_eq, iI_lt0, iI_le0, iI_gt0, iI_ge0, iI_eq0, k0, p1, k1] <;> omega) (by simp (disch := omega) only [eq_self, not_true_eq_false, not_false_eq_true, upI_same, upL_same, upI_ne, upL_ne, iI_ixN, zI_mk, zL_mk, zP_mk, zK_mk, zN_mk, zwI_up, zwL_up, zg_some, Nat.reduceMod, Nat.reduceDiv, zcn_I, iI_add, iI_sub, iI_mul, iI_neg, iI_lt, iI_le, iI_eq, iI_lt0, iI_le0, iI_gt0, iI_ge0, iI_eq0, p1, w1] <;> omega) ?_
    refine zW.gb [] rfl rfl rfl (by omega) ?_ (fun h' => ?_) (fun h' => ?_)
    · simp (disch := omega) only [true_or, or_true, eq_self, Option.some.injEq, Prod.mk.injEq, zall_0, zall_1, zall_2, zob_iff, zar_iff, zis_iff, zkIs_some, zkHas_some, iI_vp, z01_I, z01_bz, zch_I, true_and, and_true, or_false, false_or, and_self, upI_same, upL_same, upI_ne, upL_ne, iI_ixN, zI_mk, zL_mk, zP_mk, zK_mk, zN_mk, zwI_up, zwL_up, zg_some, Nat.reduceMod, Nat.reduceDiv, zcn_I, iI_add, iI_sub, iI_mul, iI_neg, iI_lt, iI_le, iI_eq, iI_lt0, iI_le0, iI_gt0, iI_ge0, iI_eq0, k0, p4, k4, q4, j4, kb, v1]
      omega
    · simp (disch := omega) only [zcn_I, iI_add, iI_sub, iI_mul, iI_neg, iI_lt, iI_le, iI_eq, iI_lt0, iI_le0, iI_gt0, iI_ge0, iI_eq0, upI_same, upL_same, upI_ne, upL_ne, iI_ixN, zI_mk, zL_mk, zP_mk, zK_mk, zN_mk, zwI_up, zwL_up, zg_some, Nat.reduceMod, Nat.reduceDiv, p4, q4, v1, v2, v3] at h'
      exact zW.go [45] rfl (by omega) trivial (NX _ (tru_f (by omega)))
    · simp (disch := omega) only [zcn_I, iI_add, iI_sub, iI_mul, iI_neg, iI_lt, iI_le, iI_eq, iI_lt0, iI_le0, iI_gt0, iI_ge0, iI_eq0, upI_same, upL_same, upI_ne, upL_ne, iI_ixN, zI_mk, zL_mk, zP_mk, zK_mk, zN_mk, zwI_up, zwL_up, zg_some, Nat.reduceMod, Nat.reduceDiv, p4, q4, v1, v2, v3] at h'
      exact zW.go [45] rfl (by omega) trivial (NX _ (tru_t (by omega)))
theorem solvB_ok {i b : Nat} {f : Nat → Nat} {x : Int32} (hd : 1 ≤ d) (h : mf y T (I, L, R)) (hi : i < tPn T) (e : x = iI (i : Int)) (kb : R.2.1 b = some (20, 10)) (hb : ∀ p, p < 10 → I b p = iI (f p : Int)) (hf : pm (pzN (tPz T i)) f)
    (hQ : ∀ q, tru (∀ p, p < 10 → pzC (tPz T i) (f p) = pzC (tPz T i) p) q → Q (.inl (some (zi q))) (I, L, R)) : zS 176 d [zr (some y), zi x, zr (some b)] (I, L, R) Q := by
  subst e
  obtain ⟨h4, hz, w1, w2, w3, w4, w5⟩ := m_pz h hi
  have hn := hz.2.1
  refine zW.go [5] rfl (by omega) trivial ?_
  refine solvB_lp hd h hi kb hb (fun p hp => (pm_up hf hn).1 p hp) (fun q hq => hQ q (tru_cg ⟨fun g p hp => ?_, fun g p hp => g p (by omega)⟩ hq)) (pzN (tPz T i)) 0 (by omega) _ _ (tru_t all_0) (zcn_I _)
  by_cases c : p < pzN (tPz T i)
  · exact g p c
  · rw [hf.2.2 p (by omega)]
end MPZ
