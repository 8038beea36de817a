/-! The law's sums over its distances. -/
def C3 (b ta r sa al aa : Nat) : Nat → Prop := fun a => C2 b ta r sa (al + 2) a ∨ a = aa
def W3 (b Ls ta r n : Nat) (g : Nat → Nat → Int) (sa al : Nat) (F : Nat → Nat → Int) (Dm : Nat → Int) (aa : Nat) (A : Nat → Int) : (Nat → Nat → Int32) → zRt → Prop := fun I R => W2 b Ls ta r n g sa al F Dm I R ∧ (R.2.1 aa = some (20, al + 1) ∧ rwI I aa (al + 1) A) ∧ sa + al + 2 ≤ aa
theorem dep_3 (b Ls ta r n : Nat) (g : Nat → Nat → Int) (sa al : Nat) (F : Nat → Nat → Int) (Dm : Nat → Int) (aa : Nat) (A : Nat → Int) : dep (C3 b ta r sa al aa) (W3 b Ls ta r n g sa al F Dm aa A) := fun I I' R R' h w => by
  obtain ⟨w1, ⟨w2, w3⟩, w4⟩ := w
  have q := h aa (Or.inr rfl)
  refine ⟨dep_2 b Ls ta r n g sa al F Dm I I' R R' (fun a ha => h a (Or.inl ha)) w1, ⟨q.2.2.trans w2, fun p hp => ?_⟩, w4⟩
  rw [q.1]
  exact w3 p hp
theorem lfJ_Dk {n r m i a : Nat} {tn : Nat → Nat → Nat} {f : Nat → Nat → Nat} {D : Nat → Nat} (h : lfJ n r tn f D m i a) : ∀ q k, k ≤ q → k < m → D k ≤ k
  | 0, k, hk, _ => by
    obtain rfl : k = 0 := by omega
    rw [h.1.2.2]
    exact Nat.le_refl 0
  | q + 1, k, hk, hm => by
    by_cases e : k = 0
    · subst e
      rw [h.1.2.2]
      exact Nat.le_refl 0
    · obtain ⟨j, b, q1, q2, q3, q4⟩ := h.2.2.2.1 k hm (by omega)
      have := lfJ_Dk h q j (by omega) (by omega)
      omega
section SC
variable {b Ls x n r ta sa al c s m : Nat} {Q : zO → zM → Prop} {g F : Nat → Nat → Int} {Dm : Nat → Int} {D : Nat → Nat} {T : tfT} {L : Nat → Nat → Int64} {R : zRt} {y3 : Int32}
theorem W3_up {aa p x : Nat} {v : Int} {A : Nat → Int} {I : Nat → Nat → Int32} (hr : r = 1 ∨ r = 2) (h : lS x (C3 b ta r sa al aa) (W3 b Ls ta r n g sa al F Dm aa A) T (I, L, R)) : lS x (C3 b ta r sa al aa) (W3 b Ls ta r n g sa al F Dm aa (fuI A p v)) T (upI I aa p (iI v), L, R) := by
  obtain ⟨⟨⟨w1, w2, w2'⟩, w3, ⟨w4, w5⟩, w6, w7⟩, ⟨w8, w9⟩, w10⟩ := h.2
  exact lS_up (Or.inr rfl) h ⟨⟨⟨w1, w2, tbI_o w2' (by omega)⟩, w3, ⟨w4, tbI_o w5 (by omega)⟩, w6, rwI_o w7 (by omega)⟩, ⟨w8, rwI_up w9⟩, w10⟩
theorem sC0 {aa : Nat} {v14 v15 v16 v17 v18 : Option zV} (hr : r = 1 ∨ r = 2) (hal : al ≤ 24) (hm : m ≤ al) (hD : rD m Dm D) (hDk : ∀ k, k < m → D k ≤ k)
    (kk : ∀ A I y10 y11 y13, y10 = iI (mxd (fun k => (D k : Int)) m) → y11 = iI ((sumN D m : Nat) : Int) → lS x (C3 b ta r sa al aa) (W3 b Ls ta r n g sa al F Dm aa A) T (I, L, R) → (∀ u, u ≤ al → A u = ((ct (fun j => decide (D j = u)) m : Nat) : Int)) → zW 298 2048 c s 663 [some (zr (some b)), some (zr (some x)), some (zi (iI (n : Int))), some (zi y3), some (zi (iI (r : Int))), some (zr (some ta)), some (zi (iI (al : Int))), some (zr (some sa)), some (zr (some (sa + 1 + al))), some (zi (iI (m : Int))), some (zi y10), some (zi y11), some (zr (some aa)), some (zi y13), v14, v15, v16, v17, v18] [] (I, L, R) Q) :
    ∀ q k, k + q = m → ∀ A I y10 y11 y13, y13 = iI (k : Int) → y10 = iI (mxd (fun k => (D k : Int)) k) → y11 = iI ((sumN D k : Nat) : Int) → lS x (C3 b ta r sa al aa) (W3 b Ls ta r n g sa al F Dm aa A) T (I, L, R) → (∀ u, u ≤ al → A u = ((ct (fun j => decide (D j = u)) k : Nat) : Int)) → zW 298 2048 c s 606 [some (zr (some b)), some (zr (some x)), some (zi (iI (n : Int))), some (zi y3), some (zi (iI (r : Int))), some (zr (some ta)), some (zi (iI (al : Int))), some (zr (some sa)), some (zr (some (sa + 1 + al))), some (zi (iI (m : Int))), some (zi y10), some (zi y11), some (zr (some aa)), some (zi y13), v14, v15, v16, v17, v18] [] (I, L, R) Q
  | 0, k, hk, A, I, y10, y11, y13, e13, e10, e11, hg, hA => by
    subst e13
    refine zW.gbt [] rfl rfl rfl (by omega) trivial (by rw [iI_le (by omega) (by omega) (by omega) (by omega)]; omega) ?_
    obtain rfl : k = m := by omega
    exact kk A I _ _ _ e10 e11 hg hA
  | q + 1, k, hk, A, I, y10, y11, y13, e13, e10, e11, hg, hA => by
    subst e13
    have km : k < m := by omega
    have hd := hDk k km
    have mx1 := mxd_nn (fun k => (D k : Int)) k
    have mx2 : mxd (fun k => (D k : Int)) k ≤ 24 := mxd_le (by omega) (fun j hj => by
      have := hDk j (by omega)
      omega)
    have e10' : y10 = iI (mxd (fun k => (D k : Int)) k) := e10
    have h2 : lS x (C3 b ta r sa al aa) (W2 b Ls ta r n g sa al F Dm) T (I, L, R) := lS_W hg hg.2.1
    have d1 := D_row (i1 := iI (k : Int)) h2 hal (show k < al by omega) rfl (hD k km)
    refine zW.gbf [] rfl rfl rfl (by omega) trivial (by rw [iI_le (by omega) (by omega) (by omega) (by omega)]; omega) ?_
    -- behind the greater one
    have key : ∀ y, y = iI (mxd (fun k => (D k : Int)) (k + 1)) → zW 298 2048 c s 633 [some (zr (some b)), some (zr (some x)), some (zi (iI (n : Int))), some (zi y3), some (zi (iI (r : Int))), some (zr (some ta)), some (zi (iI (al : Int))), some (zr (some sa)), some (zr (some (sa + 1 + al))), some (zi (iI (m : Int))), some (zi y10), some (zi y11), some (zr (some aa)), some (zi (iI (k : Int))), v14, v15, v16, v17, v18] [zi y] (I, L, R) Q := fun y ey => by
      refine zW.go [642] rfl (by omega) d1.1 ?_
      rw [d1.2]
      refine zW.go [652] rfl (by omega) d1.1 ?_
      rw [d1.2]
      have kA := hg.2.2.1.1
      have u0 := rw_ld (I := I) (L := L) (p := D k) kA (by omega) (by omega) (rfl : iI ((D k : Nat) : Int) = iI ((D k : Nat) : Int)) (hg.2.2.1.2 (D k) (by omega))
      refine zW.go [654] rfl (by omega) u0.1 ?_
      rw [u0.2, hA (D k) (by omega)]
      have u1 := rw_at (I := I) (L := L) (p := D k) kA (by omega) (by omega) (rfl : iI ((D k : Nat) : Int) = iI ((D k : Nat) : Int))
      have ea : iI ((ct (fun j => decide (D j = D k)) k : Nat) : Int) + zcn 1 = iI ((ct (fun j => decide (D j = D k)) (k + 1) : Nat) : Int) := by
        rw [zcn_I, iI_add]
        refine iI_cg ?_
        show _ = ((ct (fun j => decide (D j = D k)) k + (if decide (D k = D k) then 1 else 0) : Nat) : Int)
        rw [if_pos (decide_eq_true rfl)]
        omega
      refine zW.go [656] rfl (by omega) trivial ?_
      rw [ea]
      refine zW.go [606] rfl (by omega) u1.1 ?_
      rw [zwI_up, zg_some, u1.2]
      have g3 := W3_up (p := D k) (v := ((ct (fun j => decide (D j = D k)) (k + 1) : Nat) : Int)) hr hg
      refine sC0 hr hal hm hD hDk kk q (k + 1) (by omega) _ _ _ _ _ (by rw [zcn_I, iI_add]; rfl) ey (by rw [e11, iI_add]; rfl) g3 (fun u hu => ?_)
      unfold fuI
      by_cases e : u = D k
      · rw [if_pos e, e]
      · rw [if_neg e, hA u hu]
        show _ = ((ct (fun j => decide (D j = u)) k + (if decide (D k = u) then 1 else 0) : Nat) : Int)
        rw [if_neg (fun q => e (of_decide_eq_true q).symm)]
        omega
    refine zW.go [618] rfl (by omega) d1.1 ?_
    rw [d1.2]
    rw [e10']
    have emx : mxd (fun k => (D k : Int)) (k + 1) = if mxd (fun k => (D k : Int)) k < (D k : Int) then (D k : Int) else mxd (fun k => (D k : Int)) k := rfl
    refine zW.gb [] rfl rfl rfl (by omega) trivial (fun hh => ?_) (fun hh => ?_)
    · rw [iI_le (by omega) (by omega) (by omega) (by omega)] at hh
      refine zW.go [633] rfl (by omega) trivial ?_
      rw [e10'] at key
      refine key _ ?_
      rw [emx, if_neg (by omega)]
    · rw [iI_le (by omega) (by omega) (by omega) (by omega)] at hh
      refine zW.go [633] rfl (by omega) d1.1 ?_
      rw [d1.2]
      rw [e10'] at key
      refine key _ ?_
      rw [emx, if_pos (by omega)]
/-- the table of counts, the sums -/
theorem sC1 {K : Nat} {I : Nat → Nat → Int32} {y10 : Int32} {v11 v12 v13 v14 v15 v16 v17 v18 : Option zV} (hr : r = 1 ∨ r = 2) (hal : al ≤ 24) (hm : m ≤ al) (hD : rD m Dm D) (hDk : ∀ k, k < m → D k ≤ k) (hb : bu c s (K + 1)) (hg : lS x (C2 b ta r sa (al + 2)) (W2 b Ls ta r n g sa al F Dm) T (I, L, R))
    (kk : ∀ c s aa A I R y10 y11 y13 v14 v15 v16 v17 v18, bu c s K → y10 = iI (mxd (fun k => (D k : Int)) m) → y11 = iI ((sumN D m : Nat) : Int) → lS x (C3 b ta r sa al aa) (W3 b Ls ta r n g sa al F Dm aa A) T (I, L, R) → (∀ u, u ≤ al → A u = ((ct (fun j => decide (D j = u)) m : Nat) : Int)) → zW 298 2048 c s 663 [some (zr (some b)), some (zr (some x)), some (zi (iI (n : Int))), some (zi y3), some (zi (iI (r : Int))), some (zr (some ta)), some (zi (iI (al : Int))), some (zr (some sa)), some (zr (some (sa + 1 + al))), some (zi (iI (m : Int))), some (zi y10), some (zi y11), some (zr (some aa)), some (zi y13), v14, v15, v16, v17, v18] [] (I, L, R) Q) : zW 298 2048 c s 589 [some (zr (some b)), some (zr (some x)), some (zi (iI (n : Int))), some (zi y3), some (zi (iI (r : Int))), some (zr (some ta)), some (zi (iI (al : Int))), some (zr (some sa)), some (zr (some (sa + 1 + al))), some (zi (iI (m : Int))), some (zi y10), v11, v12, v13, v14, v15, v16, v17, v18] [] (I, L, R) Q := by
  have ea : iI (al : Int) + zcn 1 = iI ((al + 1 : Nat) : Int) := by
    rw [zcn_I, iI_add]
    rfl
  have x1 : (iI (al : Int) + zcn 1).toNatClampNeg = al + 1 := by rw [ea]; exact iI_ixN (by omega)
  have x3 : ¬ iI (al : Int) + zcn 1 < 0 := by rw [ea, iI_lt0 (by omega) (by omega)]; omega
  have x7 : (iI (al : Int) + zcn 1).toNatClampNeg < 1000000 := by rw [x1]; omega
  obtain ⟨hb1, hb⟩ := bu_n (k := K) (j := 1) (u := 1) (v := (iI (al : Int) + zcn 1).toNatClampNeg) hb (by omega) (by rw [x1]; omega)
  refine zW.gm [] rfl rfl rfl (by omega) trivial ⟨x3, x7⟩ hb1.1 hb1.2 (fun f2 => ?_)
  rw [x1, zN_mk]
  rw [zN_mk] at f2
  have fI := fresh_I f2
  rw [x1] at hb
  have em : znew (I, L, R) (20 + 0) (al + 1) = (I, L, nwR R R.2.2 20 (al + 1)) := znew_up _ _ _ _ _
  rw [em]
  refine zW.go [606] rfl (by omega) trivial ?_
  have cl : ∀ a, C2 b ta r sa (al + 2) a → a < R.2.2 := fun a ha => (hg.1.2.2 a ha).1
  have o1 : ∀ a, a < R.2.2 → (nwR R R.2.2 20 (al + 1)).1 a = R.1 a ∧ (nwR R R.2.2 20 (al + 1)).2.1 a = R.2.1 a := fun a ha => ⟨rfl, nwR_Ko (by omega)⟩
  have hs := cl (sa + al + 1) (Or.inr ⟨by omega, by omega⟩)
  have g2 : lS x (C3 b ta r sa al R.2.2) (W3 b Ls ta r n g sa al F Dm R.2.2 (fun _ => 0)) T (I, L, nwR R R.2.2 20 (al + 1)) := by
    refine lS_new hg ?_ o1 (fun a ha => ?_) ⟨dep_2 b Ls ta r n g sa al F Dm I I R _ (fun a ha => ⟨rfl, o1 a (cl a ha)⟩) hg.2, ⟨nwR_Ks rfl, fun p hp => ?_⟩, by omega⟩
    · rw [nwR_N]
      omega
    · rcases ha with q | q
      · exact Or.inl q
      · refine Or.inr ⟨by omega, ?_⟩
        rw [nwR_N]
        omega
    · rw [fI, iI_0]
  exact sC0 hr hal hm hD hDk (fun A I y10 y11 y13 e10 e11 hg hA => kk _ _ R.2.2 A I _ _ _ _ _ _ _ _ _ hb e10 e11 hg hA) m 0 (by omega) (fun _ => 0) I _ _ _ (zcn_I 0) (zcn_I 0) (zcn_I 0) g2 (fun u hu => rfl)
end SC
