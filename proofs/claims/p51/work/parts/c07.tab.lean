/-! The law's tables; a ring as the law draws it. -/
theorem tb_at {I : Nat → Nat → Int32} {L : Nat → Nat → Int64} {R : zRt} {y cnt n a : Nat} {i : Int32} (h : aLy y cnt n R) (ha : a < cnt) (hc : cnt ≤ 1000) (e : i = iI (a : Int)) : (zar (I, L, R) (some y) 25 i ∨ zar (I, L, R) (some y) 26 i ∨ zar (I, L, R) (some y) 27 i ∨ zar (I, L, R) (some y) 28 i ∨ zar (I, L, R) (some y) 29 i) ∧ zP (I, L, R) (zg (some y)) i.toNatClampNeg = some (y + 1 + a) := by
  subst e
  refine ⟨Or.inl (zar_I h.1 (by omega) (by omega) (by omega)), ?_⟩
  rw [iI_ixN (by omega)]
  exact (h.2 a ha).1
theorem rw_at {I : Nat → Nat → Int32} {L : Nat → Nat → Int64} {R : zRt} {a n p : Nat} {i : Int32} (h : R.2.1 a = some (20, n)) (hp : p < n) (hn : n ≤ 1000) (e : i = iI (p : Int)) : zar (I, L, R) (some a) 20 i ∧ i.toNatClampNeg = p := by
  subst e
  exact ⟨zar_I h (by omega) (by omega) (by omega), iI_ixN (by omega)⟩
theorem rw_ld {I : Nat → Nat → Int32} {L : Nat → Nat → Int64} {R : zRt} {a n p : Nat} {i : Int32} {v : Int} (h : R.2.1 a = some (20, n)) (hp : p < n) (hn : n ≤ 1000) (e : i = iI (p : Int)) (hv : I a p = iI v) : (zar (I, L, R) (some a) 20 i ∨ zar (I, L, R) (some a) 30 i) ∧ zI (I, L, R) (zg (some a)) i.toNatClampNeg = iI v := by
  obtain ⟨h1, h2⟩ := rw_at (I := I) (L := L) h hp hn e
  exact ⟨Or.inl h1, by rw [h2]; exact hv⟩
/-- a table is made -/
theorem mk_tb {I : Nat → Nat → Int32} {L : Nat → Nat → Int64} {R : zRt} (cnt n : Nat) : ∃ R' : zRt, zma2 5 0 cnt n (I, L, R) = (I, L, R') ∧ R'.2.2 = R.2.2 + 1 + cnt ∧ aLy R.2.2 cnt n R' ∧ ∀ a, a < R.2.2 → R'.1 a = R.1 a ∧ R'.2.1 a = R.2.1 a := by
  obtain ⟨R', e, h1, h2, h3, h4, h5⟩ := zma2_R I L R 5 0 cnt n
  exact ⟨R', e, h1, ⟨h2, fun a ha => ⟨(h3 a ha).2, (h3 a ha).1⟩⟩, fun a ha => ⟨h4 a (by omega), h5 a ha⟩⟩
def C1 (b y r : Nat) : Nat → Prop := fun a => a = b ∨ (y ≤ a ∧ a < y + 1 + 2 * r)
def W1 (b Ls y r n : Nat) (g : Nat → Nat → Int) : (Nat → Nat → Int32) → zRt → Prop := fun I R => R.2.1 b = some (30, Ls) ∧ aLy y (2 * r) n R ∧ tbI y (2 * r) n g I
theorem aLy_cg {y cnt n : Nat} {R R' : zRt} (f : ∀ a, y ≤ a → a < y + 1 + cnt → R'.1 a = R.1 a ∧ R'.2.1 a = R.2.1 a) (h : aLy y cnt n R) : aLy y cnt n R' := by
  obtain ⟨h1, h2⟩ := h
  refine ⟨((f y (by omega) (by omega)).2).trans h1, fun a ha => ⟨?_, ?_⟩⟩
  · rw [(f y (by omega) (by omega)).1]
    exact (h2 a ha).1
  · rw [(f (y + 1 + a) (by omega) (by omega)).2]
    exact (h2 a ha).2
theorem tbI_cg {y cnt n : Nat} {g : Nat → Nat → Int} {I I' : Nat → Nat → Int32} (f : ∀ a, y ≤ a → a < y + 1 + cnt → I' a = I a) (h : tbI y cnt n g I) : tbI y cnt n g I' := fun a ha p hp => by
  rw [f (y + 1 + a) (by omega) (by omega)]
  exact h a ha p hp
theorem dep_1 (b Ls y r n : Nat) (g : Nat → Nat → Int) : dep (C1 b y r) (W1 b Ls y r n g) := fun I I' R R' h w => ⟨(h b (Or.inl rfl)).2.2.trans w.1, aLy_cg (fun a q1 q2 => (h a (Or.inr ⟨q1, q2⟩)).2) w.2.1, tbI_cg (fun a q1 q2 => (h a (Or.inr ⟨q1, q2⟩)).1) w.2.2⟩
theorem tbI_ex (I : Nat → Nat → Int32) (y cnt n : Nat) : tbI y cnt n (fun a p => (I (y + 1 + a) p).toInt) I := fun a _ => rwI_ex I (y + 1 + a) n
theorem fu2_s {g : Nat → Nat → Int} {a k : Nat} {v : Int} : fu2 g a k v a k = v := by
  unfold fu2 fuI
  rw [if_pos rfl, if_pos rfl]
theorem fu2_o {g : Nat → Nat → Int} {a b k p : Nat} {v : Int} (h : b ≠ a ∨ p ≠ k) : fu2 g a k v b p = g b p := by
  unfold fu2 fuI
  by_cases e : b = a
  · rw [if_pos e, if_neg (by omega), e]
  · rw [if_neg e]
/-- a write into a row of the turns -/
theorem W1_up {b Ls y r n a k x : Nat} {g : Nat → Nat → Int} {T : tfT} {I : Nat → Nat → Int32} {L : Nat → Nat → Int64} {R : zRt} {v : Int} (ha : a < 2 * r) (h : lS x (C1 b y r) (W1 b Ls y r n g) T (I, L, R)) : lS x (C1 b y r) (W1 b Ls y r n (fu2 g a k v)) T (upI I (y + 1 + a) k (iI v), L, R) := lS_up (Or.inr ⟨by omega, by omega⟩) h ⟨h.2.1, h.2.2.1, tbI_up h.2.2.2⟩
/-! places typed, a ring's turn and its back -/
def tyL (pl : Nat → Nat) : Nat → List Nat
  | 0 => []
  | j + 1 => tyL pl j ++ [pl j]
theorem tyL_len (pl : Nat → Nat) : ∀ j, (tyL pl j).length = j
  | 0 => rfl
  | j + 1 => by
    show (tyL pl j ++ [pl j]).length = j + 1
    rw [List.length_append, tyL_len pl j]
    rfl
theorem tyL_nth (pl : Nat → Nat) : ∀ {j i : Nat}, i < j → nth (tyL pl j) i = pl i
  | j + 1, i, h => by
    show nth (tyL pl j ++ [pl j]) i = pl i
    by_cases e : i < j
    · rw [nth_sn (by rw [tyL_len]; exact e)]
      exact tyL_nth pl e
    · obtain rfl : i = j := by omega
      have := nth_sn' (l := tyL pl i) (t := pl i)
      rw [tyL_len] at this
      exact this
theorem rgk_cg {cnt step : Nat} {pl pl' : Nat → Nat} (hc : 0 < cnt) (h : ∀ i, i < cnt → pl i = pl' i) : ∀ j, j ≤ cnt → rgk cnt step pl j = rgk cnt step pl' j
  | 0, _ => rfl
  | j + 1, hj => by
    show fu (rgk cnt step pl j) (pl ((j + step) % cnt)) (pl j) = fu (rgk cnt step pl' j) (pl' ((j + step) % cnt)) (pl' j)
    rw [rgk_cg hc h j (by omega), h _ (Nat.mod_lt _ hc), h j (by omega)]
/-- the back turn, place by place -/
def ivk (cnt step : Nat) (pl : Nat → Nat) : Nat → Nat → Nat
  | 0 => fun p => p
  | j + 1 => fu (ivk cnt step pl j) (pl j) (pl ((j + step) % cnt))
theorem ivk_at {cnt step : Nat} {pl : Nat → Nat} (hpl : ∀ i j, i < cnt → j < cnt → pl i = pl j → i = j) : ∀ j, j ≤ cnt → (∀ i, i < j → ivk cnt step pl j (pl i) = pl ((i + step) % cnt)) ∧ ∀ p, (∀ i, i < j → p ≠ pl i) → ivk cnt step pl j p = p
  | 0, _ => ⟨fun i hi => absurd hi (Nat.not_lt_zero i), fun p _ => rfl⟩
  | j + 1, hj => by
    obtain ⟨k1, k2⟩ := ivk_at hpl j (by omega)
    refine ⟨fun i hi => ?_, fun p hp => ?_⟩
    · show (if pl i = pl j then pl ((j + step) % cnt) else ivk cnt step pl j (pl i)) = _
      by_cases e : i = j
      · rw [e, if_pos rfl]
      · rw [if_neg (fun q => e (hpl i j (by omega) (by omega) q))]
        exact k1 i (by omega)
    · show (if p = pl j then pl ((j + step) % cnt) else ivk cnt step pl j p) = p
      rw [if_neg (hp j (by omega))]
      exact k2 p (fun i hi => hp i (by omega))
theorem ivk_vi {cnt step n : Nat} {pl : Nat → Nat} (hpl : ∀ i j, i < cnt → j < cnt → pl i = pl j → i = j) (hs : step < cnt) (hn : ∀ i, i < cnt → pl i < n) (hn10 : n ≤ 10) (p : Nat) : ivk cnt step pl cnt p = vi 10 (rgT cnt step pl) p := by
  have hp := pm_up (rgT_pm hpl hs hn) hn10
  refine pm_inj hp ?_
  rw [vi_r hp]
  obtain ⟨k1, k2⟩ := ivk_at (step := step) hpl cnt (Nat.le_refl _)
  by_cases e : ∃ i, i < cnt ∧ p = pl i
  · obtain ⟨i, hi, rfl⟩ := e
    rw [k1 i hi]
    exact (rgk_at (step := step) hpl cnt (Nat.le_refl _)).1 i hi
  · have e' : ∀ i, i < cnt → p ≠ pl i := fun i hi q => e ⟨i, hi, q⟩
    rw [k2 p e']
    exact rgT_o hpl (by omega) e'
/-- a ring's turn moves something -/
theorem rgT_ne {cnt step : Nat} {pl : Nat → Nat} (hpl : ∀ i j, i < cnt → j < cnt → pl i = pl j → i = j) (h1 : 1 ≤ step) (hs : step < cnt) : rgT cnt step pl ≠ fun p => p := fun e => by
  have a := (rgk_at (step := step) hpl cnt (Nat.le_refl _)).1 0 (by omega)
  have b : rgT cnt step pl (pl ((0 + step) % cnt)) = pl 0 := a
  rw [e] at b
  have := hpl _ _ (Nat.mod_lt _ (by omega)) (by omega) b
  rw [Nat.zero_add, Nat.mod_eq_of_lt hs] at this
  omega
theorem vi_ne {n : Nat} {f : Nat → Nat} (hf : pm 10 f) (h : f ≠ fun p => p) : vi 10 f ≠ fun p => p := fun e => h (funext fun p => by
  have := vi_r hf p
  rw [e] at this
  exact this)
/-- a place typed, and typed again -/
theorem q_typ {T : tfT} {w : zPz} {pl : Nat → Nat} {j : Nat} (h : tq T (tyL pl j) w) (hj : j < 8) (hp : pl j < 10) (hn : ∀ i, i < j → pl i ≠ pl j) : ∃ T', oTypeP T ((pl j : Nat) : Int) = (0, ((j + 1 : Nat) : Int), T') ∧ tq T' (tyL pl (j + 1)) w ∧ oTypeP T' ((pl j : Nat) : Int) = (2, 0, T') := by
  refine ⟨((tTy T ++ [pl j], T.1.2), T.2.1, T.2.2.1, T.2.2.2.1, T.2.2.2.2), ?_, ⟨?_, h.2.1, h.2.2.1, h.2.2.2⟩, ?_⟩
  · unfold oTypeP
    rw [if_neg (fun q => q ⟨by omega, by omega⟩), dc_f.mpr (fun ⟨i, q1, q2⟩ => by
      rw [h.1, tyL_len] at q1
      rw [h.1, tyL_nth pl q1] at q2
      exact hn i q1 q2)]
    have e : (tTy T).length = j := by rw [h.1, tyL_len]
    show (if ¬ (tTy T).length < 8 then (3, 0, T) else (0, (((tTy T).length + 1 : Nat) : Int), ((tTy T ++ [pl j], T.1.2), T.2.1, T.2.2.1, T.2.2.2.1, T.2.2.2.2))) = _
    rw [if_neg (by omega), e]
  · show tTy T ++ [pl j] = tyL pl j ++ [pl j]
    rw [h.1]
  · unfold oTypeP
    rw [if_neg (fun q => q ⟨by omega, by omega⟩)]
    have : dc (∃ i, i < (tTy T ++ [pl j]).length ∧ nth (tTy T ++ [pl j]) i = ((pl j : Nat) : Int).toNat) = true := dc_t.mpr ⟨(tTy T).length, by simp, nth_sn'⟩
    exact if_pos this
