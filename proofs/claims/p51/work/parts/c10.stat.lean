/-! The law's states and distances, as they lie. -/
def C2 (b ta r sa m : Nat) : Nat → Prop := fun a => C1 b ta r a ∨ (sa ≤ a ∧ a < sa + m)
def W2 (b Ls ta r n : Nat) (g : Nat → Nat → Int) (sa al : Nat) (F : Nat → Nat → Int) (D : Nat → Int) : (Nat → Nat → Int32) → zRt → Prop := fun I R => W1 b Ls ta r n g I R ∧ ta + 1 + 2 * r ≤ sa ∧ (aLy sa al n R ∧ tbI sa al n F I) ∧ R.2.1 (sa + 1 + al) = some (20, al) ∧ rwI I (sa + 1 + al) al D
theorem dep_2 (b Ls ta r n : Nat) (g : Nat → Nat → Int) (sa al : Nat) (F : Nat → Nat → Int) (D : Nat → Int) : dep (C2 b ta r sa (al + 2)) (W2 b Ls ta r n g sa al F D) := fun I I' R R' h w => by
  obtain ⟨w1, w2, ⟨w3, w4⟩, w5, w6⟩ := w
  have q := h (sa + 1 + al) (Or.inr ⟨by omega, by omega⟩)
  refine ⟨dep_1 b Ls ta r n g I I' R R' (fun a ha => h a (Or.inl ha)) w1, w2, ⟨aLy_cg (fun a q1 q2 => (h a (Or.inr ⟨q1, by omega⟩)).2) w3, tbI_cg (fun a q1 q2 => (h a (Or.inr ⟨q1, by omega⟩)).1) w4⟩, q.2.2.trans w5, fun p hp => ?_⟩
  rw [q.1]
  exact w6 p hp
section ST
variable {b Ls x n r ta sa al w : Nat} {T : tfT} {g F : Nat → Nat → Int} {D : Nat → Int} {I : Nat → Nat → Int32} {L : Nat → Nat → Int64} {R : zRt}
/-- a write into a row of the states -/
theorem W2_upS {k p : Nat} {v : Int} (hw : al + 2 ≤ w) (hk : k < al) (h : lS x (C2 b ta r sa w) (W2 b Ls ta r n g sa al F D) T (I, L, R)) : lS x (C2 b ta r sa w) (W2 b Ls ta r n g sa al (fu2 F k p v) D) T (upI I (sa + 1 + k) p (iI v), L, R) := by
  obtain ⟨⟨w1, w2, w2'⟩, w3, ⟨w4, w5⟩, w6, w7⟩ := h.2
  exact lS_up (Or.inr ⟨by omega, by omega⟩) h ⟨⟨w1, w2, tbI_o w2' (by omega)⟩, w3, ⟨w4, tbI_up w5⟩, w6, rwI_o w7 (by omega)⟩
/-- a write into the distances -/
theorem W2_upD {p : Nat} {v : Int} (hw : al + 2 ≤ w) (h : lS x (C2 b ta r sa w) (W2 b Ls ta r n g sa al F D) T (I, L, R)) : lS x (C2 b ta r sa w) (W2 b Ls ta r n g sa al F (fuI D p v)) T (upI I (sa + 1 + al) p (iI v), L, R) := by
  obtain ⟨⟨w1, w2, w2'⟩, w3, ⟨w4, w5⟩, w6, w7⟩ := h.2
  exact lS_up (Or.inr ⟨by omega, by omega⟩) h ⟨⟨w1, w2, tbI_o w2' (by omega)⟩, w3, ⟨w4, tbI_o w5 (by omega)⟩, w6, rwI_up w7⟩
end ST
section SB
variable {b Ls x n r ta : Nat} {Q : zO → zM → Prop}
theorem sB1 {sa al : Nat} {c s : Nat} {T : tfT} {g : Nat → Nat → Int} {D : Nat → Int} {L : Nat → Nat → Int64} {R : zRt} {y3 y9 : Int32} {v11 v12 v13 v14 v15 v16 v17 v18 : Option zV} (hn : n = 3 ∨ n = 4) (hal : 1 ≤ al ∧ al ≤ 24)
    (kk : ∀ F I y10, lS x (C2 b ta r sa (al + 2)) (W2 b Ls ta r n g sa al F D) T (I, L, R) → (∀ p, p < n → F 0 p = (p : Int)) → zW 298 2048 c s 412 [some (zr (some b)), some (zr (some x)), some (zi (iI (n : Int))), some (zi y3), some (zi (iI (r : Int))), some (zr (some ta)), some (zi (iI (al : Int))), some (zr (some sa)), some (zr (some (sa + 1 + al))), some (zi y9), some (zi y10), v11, v12, v13, v14, v15, v16, v17, v18] [] (I, L, R) Q) :
    ∀ m j, j + m = n → ∀ F I y10, y10 = iI (j : Int) → lS x (C2 b ta r sa (al + 2)) (W2 b Ls ta r n g sa al F D) T (I, L, R) → (∀ p, p < j → F 0 p = (p : Int)) → zW 298 2048 c s 391 [some (zr (some b)), some (zr (some x)), some (zi (iI (n : Int))), some (zi y3), some (zi (iI (r : Int))), some (zr (some ta)), some (zi (iI (al : Int))), some (zr (some sa)), some (zr (some (sa + 1 + al))), some (zi y9), some (zi y10), v11, v12, v13, v14, v15, v16, v17, v18] [] (I, L, R) Q
  | 0, j, hj, F, I, y10, e, hg, h1 => by
    subst e
    refine zW.gbt [] rfl rfl rfl (by omega) trivial (by rw [iI_le (by omega) (by omega) (by omega) (by omega)]; omega) ?_
    exact kk F I _ hg (fun p hp => h1 p (by omega))
  | m + 1, j, hj, F, I, y10, e, hg, h1 => by
    subst e
    refine zW.gbf [] rfl rfl rfl (by omega) trivial (by rw [iI_le (by omega) (by omega) (by omega) (by omega)]; omega) ?_
    have ly := hg.2.2.2.1.1
    have ja : j < n := by omega
    have t1 := tb_at (I := I) (L := L) ly (show 0 < al by omega) (by omega) (zcn_I 0)
    refine zW.go [401] rfl (by omega) t1.1 ?_
    rw [t1.2]
    have u1 := rw_at (I := I) (L := L) (ly.2 0 (by omega)).2 ja (by omega) (rfl : iI (j : Int) = iI (j : Int))
    refine zW.go [391] rfl (by omega) u1.1 ?_
    rw [zwI_up, zg_some, u1.2]
    have g1 := W2_upS (k := 0) (p := j) (v := (j : Int)) (Nat.le_refl _) (by omega) hg
    refine sB1 hn hal kk m (j + 1) (by omega) _ _ _ (by rw [zcn_I, iI_add]; rfl) g1 (fun p hp => ?_)
    by_cases e : p = j
    · rw [e]
      exact fu2_s
    · rw [fu2_o (Or.inr e)]
      exact h1 p (by omega)
/-- from the rings to the walk -/
theorem sB2 {c s K : Nat} {T : tfT} {g : Nat → Nat → Int} {I : Nat → Nat → Int32} {L : Nat → Nat → Int64} {R : zRt} {y3 y6 : Int32} {v7 v8 v9 v10 v11 v12 v13 v14 v15 v16 v17 v18 : Option zV} (hn : n = 3 ∨ n = 4) (hb : bu c s (K + 4)) (hg : lS x (C1 b ta r) (W1 b Ls ta r n g) T (I, L, R))
    (kk : ∀ c s sa al F D I R y9 y10, bu c s K → al = allN n → y9 = iI 1 → y10 = iI 0 → lS x (C2 b ta r sa (al + 2)) (W2 b Ls ta r n g sa al F D) T (I, L, R) → (∀ p, p < n → F 0 p = (p : Int)) → D 0 = 0 → ∀ v11 v12 v13 v14 v15 v16 v17 v18, zW 298 2048 c s 415 [some (zr (some b)), some (zr (some x)), some (zi (iI (n : Int))), some (zi y3), some (zi (iI (r : Int))), some (zr (some ta)), some (zi (iI (al : Int))), some (zr (some sa)), some (zr (some (sa + 1 + al))), some (zi y9), some (zi y10), v11, v12, v13, v14, v15, v16, v17, v18] [] (I, L, R) Q) : zW 298 2048 c s 356 [some (zr (some b)), some (zr (some x)), some (zi (iI (n : Int))), some (zi y3), some (zi (iI (r : Int))), some (zr (some ta)), some (zi y6), v7, v8, v9, v10, v11, v12, v13, v14, v15, v16, v17, v18] [] (I, L, R) Q := by
  have key : ∀ y, y = iI ((allN n : Nat) : Int) → zW 298 2048 c s 368 [some (zr (some b)), some (zr (some x)), some (zi (iI (n : Int))), some (zi y3), some (zi (iI (r : Int))), some (zr (some ta)), some (zi y6), v7, v8, v9, v10, v11, v12, v13, v14, v15, v16, v17, v18] [zi y] (I, L, R) Q := fun y ey => by
    subst ey
    have hal : 1 ≤ allN n ∧ allN n ≤ 24 := by rcases hn with rfl | rfl <;> decide
    have hal2 : allN n + allN n * n ≤ 120 := by rcases hn with rfl | rfl <;> decide
    have eal : allN n = allN n := rfl
    generalize hA : allN n = al at hal hal2 eal ⊢
    have x1 : (iI (al : Int)).toNatClampNeg = al := iI_ixN (by omega)
    have x2 : (iI (n : Int)).toNatClampNeg = n := iI_ixN (by omega)
    have x3 : ¬ iI (al : Int) < 0 := by rw [iI_lt0 (by omega) (by omega)]; omega
    have x4 : ¬ iI (n : Int) < 0 := by rw [iI_lt0 (by omega) (by omega)]; omega
    have x5 : (iI (al : Int)).toNatClampNeg ≤ 1000 := by rw [x1]; omega
    have x6 : (iI (n : Int)).toNatClampNeg ≤ 1000 := by rw [x2]; omega
    obtain ⟨hb1, hb⟩ := bu_n (k := K + 2) (j := 2) (u := 1 + (iI (al : Int)).toNatClampNeg * 1) (v := (iI (al : Int)).toNatClampNeg + (iI (al : Int)).toNatClampNeg * (iI (n : Int)).toNatClampNeg) (bu_le hb (by omega)) (by rw [x1]; omega) (by rw [x1, x2]; omega)
    refine zW.gm [] rfl rfl rfl (by omega) trivial ⟨x3, x5, x4, x6⟩ hb1.1 hb1.2 (fun _ => ?_)
    obtain ⟨R', e, q1, q2, q3⟩ := mk_tb (I := I) (L := L) (R := R) al n
    rw [x1, x2, e, zN_mk]
    rw [x1, x2] at hb
    have x7 : (iI (al : Int)).toNatClampNeg < 1000000 := by rw [x1]; omega
    obtain ⟨hb1, hb⟩ := bu_n (k := K + 1) (j := 1) (u := 1) (v := (iI (al : Int)).toNatClampNeg) hb (by omega) (by rw [x1]; omega)
    refine zW.gm [] rfl rfl rfl (by omega) trivial ⟨x3, x7⟩ hb1.1 hb1.2 (fun f2 => ?_)
    rw [x1, zN_mk]
    rw [zN_mk, q1] at f2
    have fI := fresh_I f2
    rw [x1] at hb
    have em : znew (I, L, R') (20 + 0) al = (I, L, nwR R' R'.2.2 20 al) := znew_up _ _ _ _ _
    rw [em]
    have eN : R'.2.2 = R.2.2 + 1 + al := q1
    rw [eN]
    refine zW.go [391] rfl (by omega) trivial ?_
    have cl : ∀ a, C1 b ta r a → a < R.2.2 := fun a ha => (hg.1.2.2 a ha).1
    have o1 : ∀ a, a < R.2.2 → (nwR R' (R.2.2 + 1 + al) 20 al).1 a = R.1 a ∧ (nwR R' (R.2.2 + 1 + al) 20 al).2.1 a = R.2.1 a := fun a ha => ⟨(q3 a ha).1, (nwR_Ko (by omega)).trans (q3 a ha).2⟩
    have hts : ta + 1 + 2 * r ≤ R.2.2 := by
      have := cl (ta + 2 * r) (Or.inr ⟨by omega, by omega⟩)
      omega
    have g2 : lS x (C2 b ta r R.2.2 (al + 2)) (W2 b Ls ta r n g R.2.2 al (fun a p => (I (R.2.2 + 1 + a) p).toInt) (fun _ => 0)) T (I, L, nwR R' (R.2.2 + 1 + al) 20 al) := by
      refine lS_new hg ?_ o1 (fun a ha => ?_) ⟨dep_1 b Ls ta r n g I I R _ (fun a ha => ⟨rfl, o1 a (cl a ha)⟩) hg.2, hts, ⟨aLy_cg (R := R') (fun a h1 h2 => ⟨rfl, nwR_Ko (by omega)⟩) q2, tbI_ex I _ _ _⟩, nwR_Ks rfl, fun p hp => ?_⟩
      · rw [nwR_N]
        omega
      · rcases ha with q | ⟨h1, h2⟩
        · exact Or.inl q
        · refine Or.inr ⟨h1, ?_⟩
          rw [nwR_N]
          omega
      · rw [fI, iI_0]
    exact sB1 hn hal (fun F I3 y10 hg3 hF => by
      refine zW.go [415] rfl (by omega) trivial ?_
      exact kk _ _ R.2.2 al F (fun _ => 0) I3 _ _ _ (bu_le hb (by omega)) hA.symm (zcn_I 1) (zcn_I 0) hg3 hF rfl _ _ _ _ _ _ _ _) n 0 (by omega) _ I _ (zcn_I 0) g2 (fun p hp => absurd hp (Nat.not_lt_zero p))
  refine zW.gb [] rfl rfl rfl (by omega) trivial (fun h => ?_) (fun h => ?_)
  · refine zW.go [368] rfl (by omega) trivial ?_
    refine key _ ?_
    rw [zcn_I, iI_eq (by omega) (by omega) (by omega) (by omega)] at h
    have : n = 4 := by omega
    subst this
    decide +kernel
  · refine zW.go [368] rfl (by omega) trivial ?_
    refine key _ ?_
    rw [zcn_I, iI_eq (by omega) (by omega) (by omega) (by omega)] at h
    have : n = 3 := by omega
    subst this
    decide +kernel
end SB
