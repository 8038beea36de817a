/-! The model's object: its layout. -/
def mo : Nat → Nat
  | 0 => 1
  | 1 => 2
  | 2 => 3
  | 3 => 4
  | 4 => 41
  | 5 => 46
  | 6 => 51
  | 7 => 62
  | 8 => 173
  | 9 => 174
  | 10 => 175
  | 11 => 176
  | 12 => 177
  | 13 => 978
  | 14 => 1779
  | 15 => 1780
  | 16 => 1781
  | 17 => 1782
  | 18 => 1783
  | 19 => 1784
  | 20 => 1785
  | 21 => 1786
  | 22 => 1787
  | 23 => 1788
  | 24 => 1789
  | 25 => 1790
  | 26 => 1791
  | 27 => 1800
  | 28 => 1905
  | 29 => 1914
  | 30 => 1923
  | 31 => 1932
  | _ => 0
def mt : Nat → Nat
  | 0 => 20
  | 1 => 20
  | 2 => 20
  | 3 => 26
  | 4 => 25
  | 5 => 25
  | 6 => 29
  | 7 => 26
  | 8 => 21
  | 9 => 20
  | 10 => 20
  | 11 => 20
  | 12 => 25
  | 13 => 25
  | 14 => 20
  | 15 => 20
  | 16 => 20
  | 17 => 23
  | 18 => 20
  | 19 => 20
  | 20 => 23
  | 21 => 20
  | 22 => 20
  | 23 => 20
  | 24 => 22
  | 25 => 22
  | 26 => 25
  | 27 => 26
  | 28 => 25
  | 29 => 29
  | 30 => 25
  | 31 => 25
  | _ => 0
def mn : Nat → Nat
  | 0 => 8
  | 1 => 4
  | 2 => 4
  | 3 => 4
  | 4 => 4
  | 5 => 4
  | 6 => 10
  | 7 => 10
  | 8 => 11
  | 9 => 10
  | 10 => 10
  | 11 => 10
  | 12 => 800
  | 13 => 800
  | 14 => 800
  | 15 => 800
  | 16 => 6
  | 17 => 30
  | 18 => 120
  | 19 => 12
  | 20 => 8
  | 21 => 8
  | 22 => 8
  | 23 => 8
  | 24 => 8
  | 25 => 8
  | 26 => 8
  | 27 => 8
  | 28 => 8
  | 29 => 8
  | 30 => 8
  | 31 => 8
  | _ => 0
def mR2 (R : zRt) (a n t w : Nat) : Prop := ∀ i, i < n → R.1 a i = some (a + 1 + i) ∧ R.2.1 (a + 1 + i) = some (t, w)
def mR3 (R : zRt) (a n m w : Nat) : Prop := ∀ i, i < n → R.1 a i = some (a + 1 + (m + 1) * i) ∧ R.2.1 (a + 1 + (m + 1) * i) = some (25, m) ∧ ∀ j, j < m → R.1 (a + 1 + (m + 1) * i) j = some (a + 1 + (m + 1) * i + 1 + j) ∧ R.2.1 (a + 1 + (m + 1) * i + 1 + j) = some (20, w)
def ML (y : Nat) (R : zRt) : Prop := R.2.1 y = some (7, 0) ∧ (∀ k, k < 32 → R.1 y k = some (y + mo k) ∧ R.2.1 (y + mo k) = some (mt k, mn k)) ∧ mR3 R (y + 4) 4 8 10 ∧ mR2 R (y + 41) 4 20 10 ∧ mR2 R (y + 46) 4 20 10 ∧ mR2 R (y + 51) 10 22 10 ∧ mR3 R (y + 62) 10 10 10 ∧ mR2 R (y + 177) 800 20 10 ∧ mR2 R (y + 978) 800 20 8 ∧ mR2 R (y + 1791) 8 20 12 ∧ mR3 R (y + 1800) 8 12 5 ∧ mR2 R (y + 1905) 8 20 12 ∧ mR2 R (y + 1914) 8 22 12 ∧ mR2 R (y + 1923) 8 20 12 ∧ mR2 R (y + 1932) 8 20 12
theorem mR2_cg {R R' : zRt} {a n t w : Nat} (h : ∀ b, a ≤ b → b ≤ a + n → R'.2.1 b = R.2.1 b ∧ R'.1 b = R.1 b) (k : mR2 R a n t w) : mR2 R' a n t w := fun i hi => ⟨(congrFun (h a (by omega) (by omega)).2 i).trans (k i hi).1, (h _ (by omega) (by omega)).1.trans (k i hi).2⟩
theorem mR3_lt {n m i j : Nat} (hi : i < n) (hj : j < m + 1) : (m + 1) * i + j < (m + 1) * n := by
  have h1 : (m + 1) * (i + 1) ≤ (m + 1) * n := Nat.mul_le_mul_left _ hi
  rw [Nat.mul_add, Nat.mul_one] at h1
  omega
theorem mR3_cg {R R' : zRt} {a n m w : Nat} (h : ∀ b, a ≤ b → b ≤ a + (m + 1) * n → R'.2.1 b = R.2.1 b ∧ R'.1 b = R.1 b) (k : mR3 R a n m w) : mR3 R' a n m w := fun i hi => by
  have h0 := mR3_lt (m := m) (j := 0) hi (by omega)
  obtain ⟨k1, k2, k3⟩ := k i hi
  refine ⟨(congrFun (h a (by omega) (by omega)).2 i).trans k1, (h _ (by omega) (by omega)).1.trans k2, fun j hj => ?_⟩
  have h1 := mR3_lt (m := m) (j := j + 1) hi (by omega)
  exact ⟨(congrFun (h _ (by omega) (by omega)).2 j).trans (k3 j hj).1, (h _ (by omega) (by omega)).1.trans (k3 j hj).2⟩
theorem mo_lt : ∀ k, k < 32 → 1 ≤ mo k ∧ mo k < 1941 := by decide
theorem ML_cg {y : Nat} {R R' : zRt} (h : ∀ b, y ≤ b → b < y + 1941 → R'.2.1 b = R.2.1 b ∧ R'.1 b = R.1 b) (k : ML y R) : ML y R' := by
  obtain ⟨k0, kf, k3, k4, k5, k6, k7, k12, k13, k26, k27, k28, k29, k30, k31⟩ := k
  refine ⟨(h y (by omega) (by omega)).1.trans k0, fun j hj => ?_, mR3_cg (fun b q1 q2 => h b (by omega) (by omega)) k3, mR2_cg (fun b q1 q2 => h b (by omega) (by omega)) k4, mR2_cg (fun b q1 q2 => h b (by omega) (by omega)) k5, mR2_cg (fun b q1 q2 => h b (by omega) (by omega)) k6, mR3_cg (fun b q1 q2 => h b (by omega) (by omega)) k7, mR2_cg (fun b q1 q2 => h b (by omega) (by omega)) k12, mR2_cg (fun b q1 q2 => h b (by omega) (by omega)) k13, mR2_cg (fun b q1 q2 => h b (by omega) (by omega)) k26, mR3_cg (fun b q1 q2 => h b (by omega) (by omega)) k27, mR2_cg (fun b q1 q2 => h b (by omega) (by omega)) k28, mR2_cg (fun b q1 q2 => h b (by omega) (by omega)) k29, mR2_cg (fun b q1 q2 => h b (by omega) (by omega)) k30, mR2_cg (fun b q1 q2 => h b (by omega) (by omega)) k31⟩
  have := mo_lt j hj
  exact ⟨(congrFun (h y (by omega) (by omega)).2 j).trans (kf j hj).1, (h _ (by omega) (by omega)).1.trans (kf j hj).2⟩
/-! what it holds -/
/-- a puzzle -/
def mPz (y i : Nat) (I : Nat → Nat → Int32) (w : zPz) : Prop := I (y + 2) i = iI (pzN w : Int) ∧ I (y + 3) i = iI (pzR w : Int) ∧ (∀ a p, a < 2 * pzR w → p < 10 → I (y + 6 + 9 * i + a) p = iI (pzT w a p : Int)) ∧ (∀ p, p < 10 → I (y + 42 + i) p = iI (pzC w p : Int)) ∧ ∀ p, p < 10 → I (y + 47 + i) p = iI (pzS w p : Int)
/-- a round -/
def mRd (y j : Nat) (I : Nat → Nat → Int32) (w : zRd) : Prop := I (y + 1785) j = iI (rFm w : Int) ∧ I (y + 1786) j = iI (rLi w : Int) ∧ I (y + 1787) j = iI (rCu w : Int) ∧ I (y + 1788) j = iI (rDy w : Int) ∧ I (y + 1789) j = bz (rCl w) ∧ I (y + 1790) j = bz (rUd w) ∧ ∀ c, c < 12 → I (y + 1792 + j) c = iI (rMa w c : Int) ∧ I (y + 1906 + j) c = iI (rSp w c : Int) ∧ I (y + 1915 + j) c = bz (rOv w c) ∧ I (y + 1924 + j) c = iI (rTi w c : Int) ∧ I (y + 1933 + j) c = iI (rUn w c : Int) ∧ ∀ k, k < rMa w c → I (y + 1802 + 13 * j + c) k = iI (rRs w c k : Int)
/-- a round to come -/
def mR0 (y j : Nat) (I : Nat → Nat → Int32) : Prop := I (y + 1788) j = iI 0 ∧ I (y + 1789) j = iI 0 ∧ I (y + 1790) j = iI 0 ∧ ∀ c, c < 12 → I (y + 1792 + j) c = iI 0 ∧ I (y + 1906 + j) c = iI 0 ∧ I (y + 1915 + j) c = iI 0 ∧ I (y + 1924 + j) c = iI 0 ∧ I (y + 1933 + j) c = iI 0
/-- the states laid -/
def mLd (y : Nat) (I : Nat → Nat → Int32) (T : tfT) : Prop := I y 34 = iI (-1) ∨ ∃ p, p < tPn T ∧ I y 34 = iI (p : Int) ∧ pzZ (tPz T p) ≤ 800 ∧ ∀ k, k < pzZ (tPz T p) → (∀ q, q < 10 → I (y + 178 + k) q = iI (stG (pzG (tPz T p)) k q : Int)) ∧ ∀ a, a < 2 * pzR (tPz T p) → I (y + 979 + k) a = iI (nxG (pzG (tPz T p)) (pzT (tPz T p)) a k : Int)
def mHas (y : Nat) (I : Nat → Nat → Int32) (T : tfT) : Prop := (I y 32 = iI ((tTy T).length : Int) ∧ hl (I (y + 1)) (tTy T)) ∧ (I y 33 = iI (tPn T : Int) ∧ (∀ i, i < tPn T → mPz y i I (tPz T i)) ∧ ∀ i, tPn T ≤ i → i < 4 → I (y + 3) i = iI 0) ∧ (I y 35 = iI ((tSg T).length : Int) ∧ hl (I (y + 1782)) (tSg T)) ∧ (I y 38 = iI (tCn T : Int) ∧ ∀ c, c < tCn T → I (y + 1784) c = iI (tRg T c : Int)) ∧ (I y 39 = iI (tRn T : Int) ∧ (∀ j, j < tRn T → mRd y j I (tRd T j)) ∧ ∀ j, tRn T ≤ j → j < 8 → mR0 y j I) ∧ I y 40 = iI (tDy T : Int) ∧ mLd y I T
def mf (y : Nat) (T : tfT) (M : zM) : Prop := tOK T ∧ ML y M.2.2 ∧ y + 1941 ≤ M.2.2.2.2 ∧ mHas y M.1 T
/-- what its methods leave alone -/
def mgr (y : Nat) (M M' : zM) : Prop := (∀ a, a < M.2.2.2.2 → ¬ (y ≤ a ∧ a < y + 1941) → M'.1 a = M.1 a ∧ M'.2.1 a = M.2.1 a ∧ M'.2.2.1 a = M.2.2.1 a ∧ M'.2.2.2.1 a = M.2.2.2.1 a) ∧ M.2.2.2.2 ≤ M'.2.2.2.2
theorem mgr_rf {y : Nat} {M : zM} : mgr y M M := ⟨fun _ _ _ => ⟨rfl, rfl, rfl, rfl⟩, Nat.le_refl _⟩
theorem mgr_tr {y : Nat} {M M' M'' : zM} (h : mgr y M M') (k : mgr y M' M'') : mgr y M M'' := ⟨fun a q1 q2 => by
  have a1 := h.1 a q1 q2
  have a2 := k.1 a (Nat.lt_of_lt_of_le q1 h.2) q2
  exact ⟨a2.1.trans a1.1, a2.2.1.trans a1.2.1, a2.2.2.1.trans a1.2.2.1, a2.2.2.2.trans a1.2.2.2⟩, Nat.le_trans h.2 k.2⟩
/-- writes of the model's own cells -/
def mfo (y : Nat) (I : Nat → Nat → Int32) (L : Nat → Nat → Int64) (I' : Nat → Nat → Int32) (L' : Nat → Nat → Int64) : Prop := ∀ a, ¬ (y ≤ a ∧ a < y + 1941) → I' a = I a ∧ L' a = L a
theorem mfo_rf {y : Nat} {I : Nat → Nat → Int32} {L : Nat → Nat → Int64} : mfo y I L I L := fun _ _ => ⟨rfl, rfl⟩
theorem mfo_tr {y : Nat} {I I1 I2 : Nat → Nat → Int32} {L L1 L2 : Nat → Nat → Int64} (h : mfo y I L I1 L1) (k : mfo y I1 L1 I2 L2) : mfo y I L I2 L2 := fun a q => ⟨(k a q).1.trans (h a q).1, (k a q).2.trans (h a q).2⟩
theorem mgr_o {y : Nat} {I I' : Nat → Nat → Int32} {L L' : Nat → Nat → Int64} {R : zRt} (h : mfo y I L I' L') : mgr y (I, L, R) (I', L', R) := ⟨fun a _ q => ⟨(h a q).1, (h a q).2, rfl, rfl⟩, Nat.le_refl _⟩
/-- scratch: what may change at any time -/
def scA (y a : Nat) : Prop := a = y ∨ (y + 51 ≤ a ∧ a ≤ y + 176) ∨ (y + 1779 ≤ a ∧ a ≤ y + 1781) ∨ a = y + 1783
def scr (y : Nat) (I : Nat → Nat → Int32) (L : Nat → Nat → Int64) (I' : Nat → Nat → Int32) (L' : Nat → Nat → Int64) : Prop := (∀ a, ¬ scA y a → I' a = I a) ∧ (∀ k, k ≠ 36 → k ≠ 37 → k ≠ 41 → I' y k = I y k) ∧ ∀ a, a ≠ y + 173 → L' a = L a
theorem scr_rf {y : Nat} {I : Nat → Nat → Int32} {L : Nat → Nat → Int64} : scr y I L I L := ⟨fun _ _ => rfl, fun _ _ _ _ => rfl, fun _ _ => rfl⟩
theorem scr_tr {y : Nat} {I I1 I2 : Nat → Nat → Int32} {L L1 L2 : Nat → Nat → Int64} (h : scr y I L I1 L1) (k : scr y I1 L1 I2 L2) : scr y I L I2 L2 := ⟨fun a q => (k.1 a q).trans (h.1 a q), fun j q1 q2 q3 => (k.2.1 j q1 q2 q3).trans (h.2.1 j q1 q2 q3), fun a q => (k.2.2 a q).trans (h.2.2 a q)⟩
theorem scr_o {y : Nat} {I I' : Nat → Nat → Int32} {L L' : Nat → Nat → Int64} (h : scr y I L I' L') : mfo y I L I' L' := fun a q => ⟨h.1 a (fun s => by unfold scA at s; omega), h.2.2 a (by omega)⟩
theorem scr_u {y a k : Nat} {v : Int32} {I : Nat → Nat → Int32} {L : Nat → Nat → Int64} (h1 : scA y a) (h2 : a ≠ y ∨ k = 36 ∨ k = 37 ∨ k = 41) : scr y I L (upI I a k v) L := ⟨fun b q => upI_row (fun e => q (by rw [e]; exact h1)), fun j q1 q2 q3 => upI_ne (by omega), fun _ _ => rfl⟩
theorem mPz_cg {y i : Nat} {I I' : Nat → Nat → Int32} {w : zPz} (h : mPz y i I w) (hr : pzR w ≤ 4) (h2 : I' (y + 2) i = I (y + 2) i) (h3 : I' (y + 3) i = I (y + 3) i) (ht : ∀ a, a < 8 → I' (y + 6 + 9 * i + a) = I (y + 6 + 9 * i + a)) (hc : I' (y + 42 + i) = I (y + 42 + i)) (hs : I' (y + 47 + i) = I (y + 47 + i)) : mPz y i I' w := ⟨h2.trans h.1, h3.trans h.2.1, fun a p q1 q2 => by rw [ht a (by omega)]; exact h.2.2.1 a p q1 q2, fun p q => by rw [hc]; exact h.2.2.2.1 p q, fun p q => by rw [hs]; exact h.2.2.2.2 p q⟩
theorem mRd_cg {y j : Nat} {I I' : Nat → Nat → Int32} {w : zRd} (hj : j < 8) (h : mRd y j I w) (hI : ∀ a, y + 1785 ≤ a → a ≤ y + 1940 → I' a = I a) : mRd y j I' w := by
  obtain ⟨h1, h2, h3, h4, h5, h6, h7⟩ := h
  refine ⟨by rw [hI _ (by omega) (by omega)]; exact h1, by rw [hI _ (by omega) (by omega)]; exact h2, by rw [hI _ (by omega) (by omega)]; exact h3, by rw [hI _ (by omega) (by omega)]; exact h4, by rw [hI _ (by omega) (by omega)]; exact h5, by rw [hI _ (by omega) (by omega)]; exact h6, fun c hc => ?_⟩
  obtain ⟨c1, c2, c3, c4, c5, c6⟩ := h7 c hc
  exact ⟨by rw [hI _ (by omega) (by omega)]; exact c1, by rw [hI _ (by omega) (by omega)]; exact c2, by rw [hI _ (by omega) (by omega)]; exact c3, by rw [hI _ (by omega) (by omega)]; exact c4, by rw [hI _ (by omega) (by omega)]; exact c5, fun k hk => by rw [hI _ (by omega) (by omega)]; exact c6 k hk⟩
theorem mR0_cg {y j : Nat} {I I' : Nat → Nat → Int32} (hj : j < 8) (h : mR0 y j I) (hI : ∀ a, y + 1785 ≤ a → a ≤ y + 1940 → I' a = I a) : mR0 y j I' := by
  obtain ⟨h4, h5, h6, h7⟩ := h
  refine ⟨by rw [hI _ (by omega) (by omega)]; exact h4, by rw [hI _ (by omega) (by omega)]; exact h5, by rw [hI _ (by omega) (by omega)]; exact h6, fun c hc => ?_⟩
  obtain ⟨c1, c2, c3, c4, c5⟩ := h7 c hc
  exact ⟨by rw [hI _ (by omega) (by omega)]; exact c1, by rw [hI _ (by omega) (by omega)]; exact c2, by rw [hI _ (by omega) (by omega)]; exact c3, by rw [hI _ (by omega) (by omega)]; exact c4, by rw [hI _ (by omega) (by omega)]; exact c5⟩
theorem mLd_cg {y : Nat} {I I' : Nat → Nat → Int32} {T : tfT} (h : mLd y I T) (h1 : I' y 34 = I y 34) (hI : ∀ a, y + 178 ≤ a → a ≤ y + 1778 → I' a = I a) : mLd y I' T := by
  rcases h with h | ⟨p, a1, a2, a3, a4⟩
  · exact Or.inl (h1.trans h)
  · refine Or.inr ⟨p, a1, h1.trans a2, a3, fun k hk => ⟨fun q hq => ?_, fun a ha => ?_⟩⟩
    · rw [hI _ (by omega) (by omega)]
      exact (a4 k hk).1 q hq
    · rw [hI _ (by omega) (by omega)]
      exact (a4 k hk).2 a ha
theorem mHas_scr {y : Nat} {I I' : Nat → Nat → Int32} {L L' : Nat → Nat → Int64} {T : tfT} (hT : tOK T) (h : mHas y I T) (s : scr y I L I' L') : mHas y I' T := by
  obtain ⟨⟨a1, a2⟩, ⟨b1, b2, b3⟩, ⟨c1, c2⟩, ⟨d1, d2⟩, ⟨e1, e2, e3⟩, g, l⟩ := h
  obtain ⟨s1, s2, s3⟩ := s
  have hI : ∀ a, ¬ scA y a → I' a = I a := s1
  have hp4 := hT.2.1.1
  have hr8 := hT.2.2.2.2.1.1
  refine ⟨⟨(s2 32 (by omega) (by omega) (by omega)).trans a1, ?_⟩, ⟨(s2 33 (by omega) (by omega) (by omega)).trans b1, fun i hi => mPz_cg (b2 i hi) (hT.2.1.2 i hi).2.2.1 ?_ ?_ (fun a ha => ?_) ?_ ?_, fun i q1 q2 => ?_⟩, ⟨(s2 35 (by omega) (by omega) (by omega)).trans c1, ?_⟩, ⟨(s2 38 (by omega) (by omega) (by omega)).trans d1, fun c hc => ?_⟩, ⟨(s2 39 (by omega) (by omega) (by omega)).trans e1, fun j hj => mRd_cg (by omega) (e2 j hj) (fun a q1 q2 => hI a (fun q => by unfold scA at q; omega)), fun j q1 q2 => mR0_cg q2 (e3 j q1 q2) (fun a q1 q2 => hI a (fun q => by unfold scA at q; omega))⟩, (s2 40 (by omega) (by omega) (by omega)).trans g, mLd_cg l (s2 34 (by omega) (by omega) (by omega)) (fun a q1 q2 => hI a (fun q => by unfold scA at q; omega))⟩
  · rw [hI _ (fun q => by unfold scA at q; omega)]
    exact a2
  · rw [hI _ (fun q => by unfold scA at q; omega)]
  · rw [hI _ (fun q => by unfold scA at q; omega)]
  · exact hI _ (fun q => by unfold scA at q; omega)
  · exact hI _ (fun q => by unfold scA at q; omega)
  · exact hI _ (fun q => by unfold scA at q; omega)
  · rw [hI _ (fun q => by unfold scA at q; omega)]
    exact b3 i q1 q2
  · rw [hI _ (fun q => by unfold scA at q; omega)]
    exact c2
  · rw [hI _ (fun q => by unfold scA at q; omega)]
    exact d2 c hc
theorem mf_scr {y : Nat} {T : tfT} {I I' : Nat → Nat → Int32} {L L' : Nat → Nat → Int64} {R : zRt} (h : mf y T (I, L, R)) (s : scr y I L I' L') : mf y T (I', L', R) := ⟨h.1, h.2.1, h.2.2.1, mHas_scr h.1 h.2.2.2 s⟩
/-- a method's answer -/
def mP (y : Nat) (M : zM) (r : tRes) (en : Int → zV) (Q : zO → zM → Prop) : Prop := ∀ M' w, mf y r.2.2 M' → mgr y M M' → M'.1 y 41 = iI (r.1 : Int) → (r.1 = 0 → w = r.2.1) → Q (.inl (some (en w))) M'
theorem mP_0 {y : Nat} {M M' : zM} {r : tRes} {en : Int → zV} {Q : zO → zM → Prop} (h : mP y M r en Q) {v : Int} {T : tfT} (e : r = (0, v, T)) (k : mf y T M') (f : mgr y M M') (t : M'.1 y 41 = iI 0) : Q (.inl (some (en v))) M' := by
  subst e
  exact h M' v k f t (fun _ => rfl)
theorem mP_t {y c : Nat} {M M' : zM} {r : tRes} {en : Int → zV} {Q : zO → zM → Prop} (h : mP y M r en Q) {v : Int} {T : tfT} (e : r = (c + 1, v, T)) (k : mf y T M') (f : mgr y M M') (t : M'.1 y 41 = iI ((c + 1 : Nat) : Int)) (w : Int) : Q (.inl (some (en w))) M' := by
  subst e
  exact h M' w k f t (fun q => absurd q (Nat.succ_ne_zero c))
