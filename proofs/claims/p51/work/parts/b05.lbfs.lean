/-! The law's own walk: states found one by one, with their distances. -/
def rk4 (a b c : Nat) : Nat := a * 6 + (b - if a < b then 1 else 0) * 2 + (c - (if a < c then 1 else 0) - (if b < c then 1 else 0))
def rk3 (a b : Nat) : Nat := a * 2 + (b - if a < b then 1 else 0)
def dif4 (a b c d : Nat) : Bool := !(Nat.beq a b || Nat.beq a c || Nat.beq a d || Nat.beq b c || Nat.beq b d || Nat.beq c d)
theorem dif4_t {a b c d : Nat} (h : a ≠ b ∧ a ≠ c ∧ a ≠ d ∧ b ≠ c ∧ b ≠ d ∧ c ≠ d) : dif4 a b c d = true := by
  have ne : ∀ x y : Nat, x ≠ y → Nat.beq x y = false := fun x y q => by
    cases e : Nat.beq x y with
    | false => rfl
    | true => exact absurd (Nat.eq_of_beq_eq_true e) q
  unfold dif4
  rw [ne _ _ h.1, ne _ _ h.2.1, ne _ _ h.2.2.1, ne _ _ h.2.2.2.1, ne _ _ h.2.2.2.2.1, ne _ _ h.2.2.2.2.2]
  rfl
theorem rk4_all : (List.range' 0 256).all (fun e => !dif4 (e / 64) (e / 16 % 4) (e / 4 % 4) (e % 4) || (Nat.blt (rk4 (e / 64) (e / 16 % 4) (e / 4 % 4)) 24 && Nat.beq (nth [27, 30, 39, 45, 54, 57, 75, 78, 99, 108, 114, 120, 135, 141, 147, 156, 177, 180, 198, 201, 210, 216, 225, 228] (rk4 (e / 64) (e / 16 % 4) (e / 4 % 4))) e)) = true := by decide +kernel
theorem rk3_all : (List.range' 0 64).all (fun e => !dif4 (e / 16) (e / 4 % 4) (e % 4) 3 || (Nat.blt (rk3 (e / 16) (e / 4 % 4)) 6 && Nat.beq (nth [6, 9, 18, 24, 33, 36] (rk3 (e / 16) (e / 4 % 4))) e)) = true := by decide +kernel
theorem rk4_ok (a : Nat) (ha : a < 4) (b : Nat) (hb : b < 4) (c : Nat) (hc : c < 4) (d : Nat) (hd : d < 4) (h : a ≠ b ∧ a ≠ c ∧ a ≠ d ∧ b ≠ c ∧ b ≠ d ∧ c ≠ d) : rk4 a b c < 24 ∧ nth [27, 30, 39, 45, 54, 57, 75, 78, 99, 108, 114, 120, 135, 141, 147, 156, 177, 180, 198, 201, 210, 216, 225, 228] (rk4 a b c) = a * 64 + b * 16 + c * 4 + d := by
  have k := zall_in rk4_all (y := a * 64 + b * 16 + c * 4 + d) (by omega) (by omega)
  rw [show (a * 64 + b * 16 + c * 4 + d) / 64 = a by omega, show (a * 64 + b * 16 + c * 4 + d) / 16 % 4 = b by omega, show (a * 64 + b * 16 + c * 4 + d) / 4 % 4 = c by omega, show (a * 64 + b * 16 + c * 4 + d) % 4 = d by omega, dif4_t h] at k
  simp only [Bool.not_true, Bool.false_or, Bool.and_eq_true] at k
  exact ⟨Nat.le_of_ble_eq_true k.1, Nat.eq_of_beq_eq_true k.2⟩
theorem rk3_ok (a : Nat) (ha : a < 3) (b : Nat) (hb : b < 3) (c : Nat) (hc : c < 3) (h : a ≠ b ∧ a ≠ c ∧ b ≠ c) : rk3 a b < 6 ∧ nth [6, 9, 18, 24, 33, 36] (rk3 a b) = a * 16 + b * 4 + c := by
  have k := zall_in rk3_all (y := a * 16 + b * 4 + c) (by omega) (by omega)
  rw [show (a * 16 + b * 4 + c) / 16 = a by omega, show (a * 16 + b * 4 + c) / 4 % 4 = b by omega, show (a * 16 + b * 4 + c) % 4 = c by omega, dif4_t ⟨h.1, h.2.1, by omega, h.2.2, by omega, by omega⟩] at k
  simp only [Bool.not_true, Bool.false_or, Bool.and_eq_true] at k
  exact ⟨Nat.le_of_ble_eq_true k.1, Nat.eq_of_beq_eq_true k.2⟩
theorem cap4 {f : Nat → Nat → Nat} {m : Nat} (h : ∀ k, k < m → pm 4 (f k)) (hi : ∀ i j, i < m → j < m → f i = f j → i = j) : m ≤ 24 := by
  have key : ∀ k, k < m → rk4 (f k 0) (f k 1) (f k 2) < 24 ∧ nth [27, 30, 39, 45, 54, 57, 75, 78, 99, 108, 114, 120, 135, 141, 147, 156, 177, 180, 198, 201, 210, 216, 225, 228] (rk4 (f k 0) (f k 1) (f k 2)) = f k 0 * 64 + f k 1 * 16 + f k 2 * 4 + f k 3 := fun k hk => by
    obtain ⟨h1, h2, h3⟩ := h k hk
    have ne : ∀ p q, p < 4 → q < 4 → p ≠ q → f k p ≠ f k q := fun p q hp hq hne e => hne (h2 p q hp hq e)
    exact rk4_ok _ (h1 0 (by decide)) _ (h1 1 (by decide)) _ (h1 2 (by decide)) _ (h1 3 (by decide)) ⟨ne 0 1 (by decide) (by decide) (by decide), ne 0 2 (by decide) (by decide) (by decide), ne 0 3 (by decide) (by decide) (by decide), ne 1 2 (by decide) (by decide) (by decide), ne 1 3 (by decide) (by decide) (by decide), ne 2 3 (by decide) (by decide) (by decide)⟩
  refine pig_le (a := fun k => rk4 (f k 0) (f k 1) (f k 2)) (fun k hk => (key k hk).1) (fun i j h1 h2 e => hi i j h1 h2 (funext fun p => ?_))
  have e' : rk4 (f i 0) (f i 1) (f i 2) = rk4 (f j 0) (f j 1) (f j 2) := e
  have c1 := (key i h1).2
  rw [e', (key j h2).2] at c1
  have b1 := h i h1
  have b2 := h j h2
  have u0 := b1.1 0 (by decide)
  have u1 := b1.1 1 (by decide)
  have u2 := b1.1 2 (by decide)
  have u3 := b1.1 3 (by decide)
  have v0 := b2.1 0 (by decide)
  have v1 := b2.1 1 (by decide)
  have v2 := b2.1 2 (by decide)
  have v3 := b2.1 3 (by decide)
  by_cases hp : p < 4
  · rcases (show p = 0 ∨ p = 1 ∨ p = 2 ∨ p = 3 by omega) with rfl | rfl | rfl | rfl <;> omega
  · rw [b1.2.2 p (by omega), b2.2.2 p (by omega)]
theorem cap3 {f : Nat → Nat → Nat} {m : Nat} (h : ∀ k, k < m → pm 3 (f k)) (hi : ∀ i j, i < m → j < m → f i = f j → i = j) : m ≤ 6 := by
  have key : ∀ k, k < m → rk3 (f k 0) (f k 1) < 6 ∧ nth [6, 9, 18, 24, 33, 36] (rk3 (f k 0) (f k 1)) = f k 0 * 16 + f k 1 * 4 + f k 2 := fun k hk => by
    obtain ⟨h1, h2, h3⟩ := h k hk
    have ne : ∀ p q, p < 3 → q < 3 → p ≠ q → f k p ≠ f k q := fun p q hp hq hne e => hne (h2 p q hp hq e)
    exact rk3_ok _ (h1 0 (by decide)) _ (h1 1 (by decide)) _ (h1 2 (by decide)) ⟨ne 0 1 (by decide) (by decide) (by decide), ne 0 2 (by decide) (by decide) (by decide), ne 1 2 (by decide) (by decide) (by decide)⟩
  refine pig_le (a := fun k => rk3 (f k 0) (f k 1)) (fun k hk => (key k hk).1) (fun i j h1 h2 e => hi i j h1 h2 (funext fun p => ?_))
  have e' : rk3 (f i 0) (f i 1) = rk3 (f j 0) (f j 1) := e
  have c1 := (key i h1).2
  rw [e', (key j h2).2] at c1
  have b1 := h i h1
  have b2 := h j h2
  have u0 := b1.1 0 (by decide)
  have u1 := b1.1 1 (by decide)
  have u2 := b1.1 2 (by decide)
  have v0 := b2.1 0 (by decide)
  have v1 := b2.1 1 (by decide)
  have v2 := b2.1 2 (by decide)
  by_cases hp : p < 3
  · rcases (show p = 0 ∨ p = 1 ∨ p = 2 by omega) with rfl | rfl | rfl <;> omega
  · rw [b1.2.2 p (by omega), b2.2.2 p (by omega)]
/-- rows enough -/
def allN (n : Nat) : Nat := if n = 3 then 6 else 24
theorem cap_ok {n m : Nat} {f : Nat → Nat → Nat} (hn : n = 3 ∨ n = 4) (h : ∀ k, k < m → pm n (f k)) (hi : ∀ i j, i < m → j < m → f i = f j → i = j) : m ≤ allN n := by
  rcases hn with rfl | rfl
  · exact cap3 h hi
  · exact cap4 h hi
/-- while the law walks: state i, its turn a -/
def lfJ (n r : Nat) (tn : Nat → Nat → Nat) (f : Nat → Nat → Nat) (D : Nat → Nat) (m i a : Nat) : Prop :=
  (1 ≤ m ∧ f 0 = (fun p => p) ∧ D 0 = 0) ∧ (∀ k, k < m → zG r tn (f k) ∧ pm n (f k)) ∧ (∀ j k, j < m → k < m → f j = f k → j = k) ∧
  (∀ k, k < m → 0 < k → ∃ j b, j < k ∧ b < 2 * r ∧ f k = (fun p => f j (tn b p)) ∧ D k = D j + 1) ∧
  ((∀ j k, j ≤ k → k < m → D j ≤ D k) ∧ (∀ k, i < m → k < m → D k ≤ D i + 1)) ∧
  (∀ j b, j < i → j < m → b < 2 * r → ∃ k, k < m ∧ f k = (fun p => f j (tn b p)) ∧ D k ≤ D j + 1) ∧
  ∀ b, b < a → i < m → ∃ k, k < m ∧ f k = (fun p => f i (tn b p)) ∧ D k ≤ D i + 1
def upf (f : Nat → Nat → Nat) (m : Nat) (g : Nat → Nat) : Nat → Nat → Nat := fun k => if k = m then g else f k
def upD (D : Nat → Nat) (m v : Nat) : Nat → Nat := fun k => if k = m then v else D k
section LFJ
variable {n r : Nat} {tn : Nat → Nat → Nat} {f : Nat → Nat → Nat} {D : Nat → Nat} {m i a : Nat}
theorem lfJ_0 (n r : Nat) (tn : Nat → Nat → Nat) : lfJ n r tn (fun _ p => p) (fun _ => 0) 1 0 0 := by
  refine ⟨⟨Nat.le_refl _, rfl, rfl⟩, fun k _ => ⟨Gm_id _, pm_id n⟩, fun j k h1 h2 _ => by omega, fun k h1 h2 => by omega, ⟨fun _ _ _ _ => Nat.le_refl _, fun _ _ _ => Nat.le_succ 0⟩, fun j b h => absurd h (Nat.not_lt_zero j), fun b h => absurd h (Nat.not_lt_zero b)⟩
theorem lfJ_found (h : lfJ n r tn f D m i a) (hi : i < m) (hx : ∃ k, k < m ∧ f k = fun p => f i (tn a p)) : lfJ n r tn f D m i (a + 1) := by
  obtain ⟨j1, j2, j3, j4, j5, j6, j7⟩ := h
  refine ⟨j1, j2, j3, j4, j5, j6, fun b hb _ => ?_⟩
  by_cases e : b = a
  · subst e
    obtain ⟨k, q1, q2⟩ := hx
    exact ⟨k, q1, q2, j5.2 k hi q1⟩
  · exact j7 b (by omega) hi
theorem lfJ_next (h : lfJ n r tn f D m i (2 * r)) : lfJ n r tn f D m (i + 1) 0 := by
  obtain ⟨j1, j2, j3, j4, j5, j6, j7⟩ := h
  refine ⟨j1, j2, j3, j4, ⟨j5.1, fun k h1 h2 => ?_⟩, fun j b h1 h2 h3 => ?_, fun b h => absurd h (Nat.not_lt_zero b)⟩
  · have a1 := j5.2 k (by omega) h2
    have a2 := j5.1 i (i + 1) (by omega) h1
    omega
  · by_cases e : j = i
    · subst e
      exact j7 b h3 h2
    · exact j6 j b (by omega) h2 h3
theorem lfJ_new (hT : ∀ b, b < 2 * r → zG r tn (tn b) ∧ pm n (tn b)) (h : lfJ n r tn f D m i a) (hi : i < m) (ha : a < 2 * r) (hx : ∀ k, k < m → f k ≠ fun p => f i (tn a p)) : lfJ n r tn (upf f m (fun p => f i (tn a p))) (upD D m (D i + 1)) (m + 1) i (a + 1) := by
  obtain ⟨j1, j2, j3, j4, j5, j6, j7⟩ := h
  have f1 : ∀ k, k < m → upf f m (fun p => f i (tn a p)) k = f k := fun k hk => if_neg (by omega)
  have f2 : upf f m (fun p => f i (tn a p)) m = fun p => f i (tn a p) := if_pos rfl
  have d1 : ∀ k, k < m → upD D m (D i + 1) k = D k := fun k hk => if_neg (by omega)
  have d2 : upD D m (D i + 1) m = D i + 1 := if_pos rfl
  generalize upf f m (fun p => f i (tn a p)) = f' at f1 f2
  generalize upD D m (D i + 1) = D' at d1 d2
  have up : ∀ j b, j < m → (∃ k, k < m ∧ f k = (fun p => f j (tn b p)) ∧ D k ≤ D j + 1) → ∃ k, k < m + 1 ∧ f' k = (fun p => f' j (tn b p)) ∧ D' k ≤ D' j + 1 := fun j b hj ⟨k, q1, q2, q3⟩ => ⟨k, by omega, by rw [f1 k q1, f1 j hj]; exact q2, by rw [d1 k q1, d1 j hj]; exact q3⟩
  refine ⟨⟨by omega, by rw [f1 0 (by omega)]; exact j1.2.1, by rw [d1 0 (by omega)]; exact j1.2.2⟩, fun k hk => ?_, fun j k h1 h2 e => ?_, fun k h1 h2 => ?_, ⟨fun j k h1 h2 => ?_, fun k h1 h2 => ?_⟩, fun j b h1 h2 h3 => up j b (by omega) (j6 j b h1 (by omega) h3), fun b h1 h2 => ?_⟩
  · by_cases e : k = m
    · subst e
      rw [f2]
      exact ⟨Gm_mul (j2 i hi).1 (hT a ha).1, pm_comp (j2 i hi).2 (hT a ha).2⟩
    · rw [f1 k (by omega)]
      exact j2 k (by omega)
  · by_cases e1 : j = m
    · by_cases e2 : k = m
      · omega
      · rw [e1, f2, f1 k (by omega)] at e
        exact absurd e.symm (hx k (by omega))
    · by_cases e2 : k = m
      · rw [e2, f2, f1 j (by omega)] at e
        exact absurd e (hx j (by omega))
      · rw [f1 j (by omega), f1 k (by omega)] at e
        exact j3 j k (by omega) (by omega) e
  · by_cases e : k = m
    · subst e
      exact ⟨i, a, hi, ha, by rw [f2, f1 i hi], by rw [d2, d1 i hi]⟩
    · obtain ⟨j, b, q1, q2, q3, q4⟩ := j4 k (by omega) h2
      exact ⟨j, b, q1, q2, by rw [f1 k (by omega), f1 j (by omega)]; exact q3, by rw [d1 k (by omega), d1 j (by omega)]; exact q4⟩
  · by_cases e : k = m
    · subst e
      rw [d2]
      by_cases e1 : j = k
      · subst e1
        rw [d2]
        exact Nat.le_refl _
      · rw [d1 j (by omega)]
        exact j5.2 j hi (by omega)
    · rw [d1 j (by omega), d1 k (by omega)]
      exact j5.1 j k h1 (by omega)
  · rw [d1 i hi]
    by_cases e : k = m
    · subst e
      rw [d2]
      exact Nat.le_refl _
    · rw [d1 k (by omega)]
      exact j5.2 k hi (by omega)
  · by_cases e : b = a
    · subst e
      exact ⟨m, by omega, by rw [f2, f1 i hi], by rw [d2, d1 i hi]; exact Nat.le_refl _⟩
    · exact up i b hi (j7 b (by omega) hi)
/-- at the end all are told, with least distances -/
theorem lfJ_enu (h : lfJ n r tn f D m i a) (hi : m ≤ i) : enu (zG r tn) f m := by
  obtain ⟨j1, j2, j3, j4, j5, j6, j7⟩ := h
  refine ⟨fun k hk => (j2 k hk).1, j3, fun s hs => ?_⟩
  have key : ∀ k, k < m → ∃ k', k' < m ∧ f k' = fun p => f k (s p) := by
    refine hs (fun s => ∀ k, k < m → ∃ k', k' < m ∧ f k' = fun p => f k (s p)) (fun k hk => ⟨k, hk, rfl⟩) (fun g hg k hk => ?_) (fun g1 g2 q1 q2 k hk => ?_)
    · obtain ⟨b, hb, rfl⟩ := hg
      obtain ⟨k', q1, q2, -⟩ := j6 k (2 * b) (by omega) hk (by omega)
      exact ⟨k', q1, q2⟩
    · obtain ⟨k1, a1, a2⟩ := q1 k hk
      obtain ⟨k2, b1, b2⟩ := q2 k1 a1
      exact ⟨k2, b1, by rw [b2, a2]⟩
  obtain ⟨k', q1, q2⟩ := key 0 (by omega)
  rw [j1.2.1] at q2
  exact ⟨k', q1, q2⟩
noncomputable def dL (f : Nat → Nat → Nat) (D : Nat → Nat) (m : Nat) (s : Nat → Nat) : Int := (D (Classical.epsilon (fun k => k < m ∧ f k = s)) : Int)
theorem dL_k (hj : ∀ j k, j < m → k < m → f j = f k → j = k) {k : Nat} (hk : k < m) : dL f D m (f k) = (D k : Int) := by
  have h := Classical.epsilon_spec (p := fun j => j < m ∧ f j = f k) ⟨k, hk, rfl⟩
  unfold dL
  rw [hj _ _ h.1 hk h.2]
theorem lfJ_dst (hO : tnO r tn (zG r tn)) (h : lfJ n r tn f D m i a) (hi : m ≤ i) : dst r tn (zG r tn) (dL f D m) ∧ dnr r tn (zG r tn) (dL f D m) := by
  have he := lfJ_enu h hi
  obtain ⟨j1, j2, j3, j4, j5, j6, j7⟩ := h
  refine ⟨⟨?_, fun s hs => ?_, fun s b hs hb => ?_⟩, fun s hs hne => ?_⟩
  · rw [← j1.2.1, dL_k j3 (by omega), j1.2.2]
    rfl
  · exact Int.natCast_nonneg _
  · obtain ⟨k, hk, rfl⟩ := he.2.2 s hs
    obtain ⟨k', q1, q2, q3⟩ := j6 k b (by omega) hk hb
    rw [← q2, dL_k j3 q1, dL_k j3 hk]
    omega
  · obtain ⟨k, hk, rfl⟩ := he.2.2 s hs
    have h0 : 0 < k := by
      rcases Nat.eq_zero_or_pos k with q | q
      · rw [q] at hne
        exact absurd j1.2.1 hne
      · exact q
    obtain ⟨j, b, q1, q2, q3, q4⟩ := j4 k hk h0
    obtain ⟨f1, f2⟩ := hO.2.1 b q2
    obtain ⟨g1, g2⟩ := hO.2.1 (fl b) f1
    have e : (fun p => f k (tn (fl b) p)) = f j := by
      rw [q3]
      exact funext fun p => congrArg (f j) (f2 p)
    refine ⟨fl b, f1, ?_⟩
    rw [e, dL_k j3 (by omega), dL_k j3 hk, q4]
    omega
theorem lfJ_dG {st : Nat → Nat} (hz : zOK n r tn (fun p => p) st) (h8 : szG (zG r tn) 10 ≤ 800) (h : lfJ n r tn f D m i a) (hi : m ≤ i) {k : Nat} (hk : k < m) : dG 0 r tn (f k) = (D k : Int) := by
  have hO := zG_tnO hz
  obtain ⟨d1, d2⟩ := lfJ_dst hO h hi
  have hg := (h.2.1 k hk).1
  have a1 := dst_le hO (dG_dst (k := 0) hz h8) d1 (dG_dnr hz h8) hg
  have a2 := dst_le hO d1 (dG_dst (k := 0) hz h8) d2 hg
  rw [dL_k h.2.2.1 hk] at a1 a2
  omega
end LFJ
