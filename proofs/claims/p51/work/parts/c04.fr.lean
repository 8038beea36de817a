/-! The law's own cells: apart from the class's, they stay over its calls. -/
theorem tf_ow {x z : Nat} {pb rb : Nat → Nat} {T : tfT} {M M' : zM} (h : tf x z pb rb T M) (hr : tRn T = 0) (f : ∀ a, ownC x M a → M'.1 a = M.1 a ∧ M'.2.1 a = M.2.1 a ∧ M'.2.2.1 a = M.2.2.1 a ∧ M'.2.2.2.1 a = M.2.2.2.1 a) (hN : M.2.2.2.2 ≤ M'.2.2.2.2) : tf x z pb rb T M' := by
  have hh := h
  obtain ⟨k1, k2, k3, k4⟩ := h
  have g0 : ∀ a, x ≤ a → a < x + 17 → _ := fun a q1 q2 => f a (Or.inl ⟨q1, q2⟩)
  have g1 : ∀ i a, i < tPn T → pb i ≤ a → a < pb i + 24 → _ := fun i a hi q1 q2 => f a (own_pz hh hi q1 q2)
  have g2 : ∀ j : Nat, ¬ j < tRn T := fun j => by rw [hr]; exact Nat.not_lt_zero j
  exact ⟨k1, tLay_cg (fun a q1 q2 => ⟨(g0 a q1 q2).2.2.2, (g0 a q1 q2).2.2.1⟩) (fun i a hi q1 q2 => ⟨(g1 i a hi q1 q2).2.2.2, (g1 i a hi q1 q2).2.2.1⟩) (fun j a hj q1 q2 => absurd hj (g2 j)) k2, tAp_le k3 hN, tHas_cg (fun a q1 q2 => (g0 a q1 q2).1) (fun i a hi q1 q2 => ⟨(g1 i a hi q1 q2).1, (g1 i a hi q1 q2).2.1⟩) (fun j a hj q1 q2 => absurd hj (g2 j)) k4⟩
theorem own_lt {x z a : Nat} {pb rb : Nat → Nat} {T : tfT} {M : zM} (h : tf x z pb rb T M) (w : ownC x M a) : a < M.2.2.2.2 := by
  rcases own_out h w with q | ⟨i, hi, q1, q2⟩
  · have := h.2.2.1.1
    have := h.2.2.1.2.1
    omega
  · have := (h.2.2.1.2.2.1 i hi).2.1
    omega
/-- cells of the law's -/
def lkp (x : Nat) (C : Nat → Prop) (M : zM) : Prop := ∀ a, C a → a < M.2.2.2.2 ∧ ¬ ownC x M a
/-- what is said of cells C alone -/
def dep (C : Nat → Prop) (W : (Nat → Nat → Int32) → zRt → Prop) : Prop := ∀ I I' R R', (∀ a, C a → I' a = I a ∧ R'.1 a = R.1 a ∧ R'.2.1 a = R.2.1 a) → W I R → W I' R'
/-- the law's world: the object with T, the law's cells C, of which W holds -/
def lS (x : Nat) (C : Nat → Prop) (W : (Nat → Nat → Int32) → zRt → Prop) (T : tfT) (M : zM) : Prop := (tfx x (x + 17) T M ∧ tRn T = 0 ∧ lkp x C M) ∧ W M.1 M.2.2
section LSS
variable {x : Nat} {C C' : Nat → Prop} {W W' : (Nat → Nat → Int32) → zRt → Prop} {T T' : tfT} {M M' : zM} {I I' : Nat → Nat → Int32} {L : Nat → Nat → Int64} {R R' : zRt}
theorem lS_call (hd : dep C W) (h : lS x C W T M) (k : tfx x (x + 17) T' M') (hr : tRn T' = 0) (f : tfr x (x + 17) M M') : lS x C W T' M' := by
  obtain ⟨⟨h1, h2, h3⟩, h4⟩ := h
  refine ⟨⟨k, hr, fun a ha => ⟨Nat.lt_of_lt_of_le (h3 a ha).1 f.2.1, fun w => (h3 a ha).2 (f.2.2 a (h3 a ha).1 w)⟩⟩, hd _ _ _ _ (fun a ha => ?_) h4⟩
  have := f.1 a (h3 a ha).1 (h3 a ha).2
  exact ⟨this.1, this.2.2.1, this.2.2.2⟩
/-- a number written into a cell of the law's -/
theorem lS_up {a k : Nat} {v : Int32} (ha : C a) (h : lS x C W T (I, L, R)) (hW : W' (upI I a k v) R) : lS x C W' T (upI I a k v, L, R) := by
  obtain ⟨⟨⟨pb, rb, h1⟩, h2, h3⟩, -⟩ := h
  have hn := (h3 a ha).2
  have hx : upI I a k v x = I x := upI_row (fun e => hn (Or.inl ⟨by omega, by omega⟩))
  refine ⟨⟨⟨pb, rb, tf_ow h1 h2 (fun c hc => ⟨upI_row (fun e => hn (e ▸ hc)), rfl, rfl, rfl⟩) (Nat.le_refl _)⟩, h2, fun c hc => ⟨(h3 c hc).1, fun w => (h3 c hc).2 (own_cI (I' := upI I a k v) (by rw [hx]) w)⟩⟩, hW⟩
/-- new cells, all behind -/
theorem lS_new (h : lS x C W T (I, L, R)) (hN : R.2.2 ≤ R'.2.2) (h1 : ∀ a, a < R.2.2 → R'.1 a = R.1 a ∧ R'.2.1 a = R.2.1 a) (hC : ∀ a, C' a → C a ∨ (R.2.2 ≤ a ∧ a < R'.2.2)) (hW : W' I R') : lS x C' W' T (I, L, R') := by
  obtain ⟨⟨⟨pb, rb, k1⟩, k2, k3⟩, -⟩ := h
  have kt : tf x (x + 17) pb rb T (I, L, R') := tf_ow k1 k2 (fun c hc => ⟨rfl, rfl, (h1 c (own_lt k1 hc)).1, (h1 c (own_lt k1 hc)).2⟩) hN
  have hx2 : x + 2 < R.2.2 := by
    have := k1.2.2.1.1
    have : x + 17 ≤ R.2.2 := k1.2.2.1.2.1
    omega
  have ow : ∀ c, ownC x (I, L, R') c → ownC x (I, L, R) c := fun c w => own_cg (M := (I, L, R)) (M' := (I, L, R')) rfl (h1 _ hx2).1 w
  refine ⟨⟨⟨pb, rb, kt⟩, k2, fun c hc => ?_⟩, hW⟩
  rcases hC c hc with q | ⟨q1, q2⟩
  · exact ⟨Nat.lt_of_lt_of_le (k3 c q).1 hN, fun w => (k3 c q).2 (ow c w)⟩
  · exact ⟨q2, fun w => by
      have := own_lt k1 (ow c w)
      have : c < R.2.2 := this
      omega⟩
theorem lS_W (h : lS x C W T M) (hW : W' M.1 M.2.2) : lS x C W' T M := ⟨h.1, hW⟩
theorem lS_k0 (h : lS x C W T (I, L, R)) : R.2.1 x = some (6, 0) := by
  obtain ⟨⟨⟨pb, rb, k1⟩, -⟩, -⟩ := h
  exact k1.2.1.1.1
end LSS
/-! rows of the law's -/
def rwI (I : Nat → Nat → Int32) (a n : Nat) (g : Nat → Int) : Prop := ∀ p, p < n → I a p = iI (g p)
theorem rwI_ex (I : Nat → Nat → Int32) (a n : Nat) : rwI I a n (fun p => (I a p).toInt) := fun p _ => (Int32.ofInt_toInt _).symm
def fuI (g : Nat → Int) (k : Nat) (v : Int) : Nat → Int := fun p => if p = k then v else g p
theorem rwI_up {I : Nat → Nat → Int32} {a n k : Nat} {g : Nat → Int} {v : Int} (h : rwI I a n g) : rwI (upI I a k (iI v)) a n (fuI g k v) := fun p hp => by
  unfold fuI
  by_cases e : p = k
  · rw [e, upI_same, if_pos rfl]
  · rw [upI_ne (by omega), if_neg e]
    exact h p hp
theorem rwI_o {I : Nat → Nat → Int32} {a b n k : Nat} {g : Nat → Int} {v : Int32} (h : rwI I a n g) (hb : a ≠ b) : rwI (upI I b k v) a n g := fun p hp => by
  rw [upI_row hb]
  exact h p hp
/-- a table of rows: at y, cnt rows of n -/
def aLy (y cnt n : Nat) (R : zRt) : Prop := R.2.1 y = some (25, cnt) ∧ ∀ a, a < cnt → R.1 y a = some (y + 1 + a) ∧ R.2.1 (y + 1 + a) = some (20, n)
def tbI (y cnt n : Nat) (g : Nat → Nat → Int) (I : Nat → Nat → Int32) : Prop := ∀ a, a < cnt → rwI I (y + 1 + a) n (g a)
def fu2 (g : Nat → Nat → Int) (a k : Nat) (v : Int) : Nat → Nat → Int := fun b => if b = a then fuI (g a) k v else g b
theorem tbI_up {y cnt n a k : Nat} {g : Nat → Nat → Int} {I : Nat → Nat → Int32} {v : Int} (h : tbI y cnt n g I) : tbI y cnt n (fu2 g a k v) (upI I (y + 1 + a) k (iI v)) := fun b hb => by
  unfold fu2
  by_cases e : b = a
  · rw [if_pos e, e]
    exact rwI_up (by rw [← e]; exact h b hb)
  · rw [if_neg e]
    exact rwI_o (h b hb) (by omega)
theorem tbI_o {y cnt n c k : Nat} {g : Nat → Nat → Int} {I : Nat → Nat → Int32} {v : Int32} (h : tbI y cnt n g I) (hc : c ≤ y ∨ y + 1 + cnt ≤ c) : tbI y cnt n g (upI I c k v) := fun b hb => rwI_o (h b hb) (by omega)
/-- the room left, in calls -/
def bu (c s k : Nat) : Prop := c + 30 * k ≤ zmc 298 ∧ s + 110 * k ≤ zms 298
theorem bu_0 : bu 0 0 20000 := by
  unfold bu
  decide +kernel
theorem bu_y {c s k j y : Nat} (h : bu c s (k + j)) (h1 : zmc y ≤ 30 * j) (h2 : zms y ≤ 110 * j) : (c + zmc y ≤ zmc 298 ∧ s + zms y ≤ zms 298) ∧ bu (c + zmc y) (s + zms y) k := by
  unfold bu at h ⊢
  generalize zmc 298 = A at h ⊢
  generalize zms 298 = B at h ⊢
  omega
theorem bu_le {c s k j : Nat} (h : bu c s k) (hj : j ≤ k) : bu c s j := by
  unfold bu at h ⊢
  generalize zmc 298 = A at h ⊢
  generalize zms 298 = B at h ⊢
  omega
theorem bu_n {c s k j u v : Nat} (h : bu c s (k + j)) (h1 : u ≤ 30 * j) (h2 : v ≤ 110 * j) : (c + u ≤ zmc 298 ∧ s + v ≤ zms 298) ∧ bu (c + u) (s + v) k := by
  unfold bu at h ⊢
  generalize zmc 298 = A at h ⊢
  generalize zms 298 = B at h ⊢
  omega
