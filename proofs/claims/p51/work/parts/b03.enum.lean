/-! A group told one by one, in any order: how many, which number, sums, the greatest. -/
def enu (G : (Nat → Nat) → Prop) (f : Nat → Nat → Nat) (m : Nat) : Prop := (∀ k, k < m → G (f k)) ∧ (∀ i j, i < m → j < m → f i = f j → i = j) ∧ ∀ s, G s → ∃ k, k < m ∧ f k = s
theorem pig_le {n m : Nat} {a : Nat → Nat} (h1 : ∀ i, i < n → a i < m) (h2 : ∀ i j, i < n → j < n → a i = a j → i = j) : n ≤ m := by
  rcases Nat.lt_or_ge m n with q | q
  · obtain ⟨i, j, q1, q2, q3⟩ := pig m a (fun i hi => h1 i (by omega))
    have := h2 i j (by omega) (by omega) q3
    omega
  · exact q
section ENU
variable {G : (Nat → Nat) → Prop} {f : Nat → Nat → Nat} {m : Nat}
theorem enu_nu (hG : isG G) (h : enu G f m) : (∀ k, k < m → numG G (f k) 10 < szG G 10) ∧ ∀ i j, i < m → j < m → numG G (f i) 10 = numG G (f j) 10 → i = j := ⟨fun k hk => numG_lt hG (h.1 k hk) 10 (Nat.le_refl _), fun i j hi hj e => h.2.1 i j hi hj (numG_inj hG (h.1 i hi) (h.1 j hj) e)⟩
theorem enu_sz (hG : isG G) (h : enu G f m) : szG G 10 = m := by
  obtain ⟨h1, h2⟩ := enu_nu hG h
  have a1 := pig_le h1 h2
  have a2 : szG G 10 ≤ m := by
    have ex : ∀ i, ∃ k, i < szG G 10 → k < m ∧ f k = stG G i := fun i => by
      by_cases hi : i < szG G 10
      · obtain ⟨k, q1, q2⟩ := h.2.2 _ (stG_sp hG hi).1
        exact ⟨k, fun _ => ⟨q1, q2⟩⟩
      · exact ⟨0, fun q => absurd q hi⟩
    refine pig_le (a := fun i => Classical.choose (ex i)) (fun i hi => (Classical.choose_spec (ex i) hi).1) (fun i j hi hj e => ?_)
    have c1 := Classical.choose_spec (ex i) hi
    have c2 := Classical.choose_spec (ex j) hj
    have e' : Classical.choose (ex i) = Classical.choose (ex j) := e
    rw [e'] at c1
    have := c1.2.symm.trans c2.2
    rw [← (stG_sp hG hi).2, ← (stG_sp hG hj).2, this]
  omega
theorem enu_ct (hG : isG G) (h : enu G f m) (b : Nat → Bool) : ct (fun k => b (numG G (f k) 10)) m = ct b m := by
  obtain ⟨h1, h2⟩ := enu_nu hG h
  rw [enu_sz hG h] at h1
  exact ct_perm m (fun k => numG G (f k) 10) h1 h2
theorem enu_sur (hG : isG G) (h : enu G f m) {i : Nat} (hi : i < m) : ∃ k, k < m ∧ numG G (f k) 10 = i := by
  rw [← enu_sz hG h] at hi
  obtain ⟨k, q1, q2⟩ := h.2.2 _ (stG_sp hG hi).1
  exact ⟨k, q1, by rw [q2]; exact (stG_sp hG hi).2⟩
end ENU
/-! sums and greatest ones don't mind the order -/
theorem ct_below (v : Nat) : ∀ B, v ≤ B → ct (fun u => decide (u < v)) B = v
  | 0, h => by
    have : v = 0 := by omega
    rw [this]
    rfl
  | B + 1, h => by
    show ct (fun u => decide (u < v)) B + (if decide (B < v) then 1 else 0) = v
    by_cases e : v = B + 1
    · rw [if_pos (decide_eq_true (by omega)), ct_full (fun k hk => decide_eq_true (by omega))]
      omega
    · rw [if_neg (fun q => by have := of_decide_eq_true q; omega), ct_below v B (by omega)]
      rfl
def sumN (f : Nat → Nat) : Nat → Nat
  | 0 => 0
  | n + 1 => sumN f n + f n
theorem sumN_cg {f g : Nat → Nat} : ∀ {n : Nat}, (∀ k, k < n → f k = g k) → sumN f n = sumN g n
  | 0, _ => rfl
  | n + 1, h => by
    show sumN f n + f n = sumN g n + g n
    rw [sumN_cg (fun k hk => h k (by omega)), h n (by omega)]
theorem sumN_add (f g : Nat → Nat) : ∀ n, sumN (fun k => f k + g k) n = sumN f n + sumN g n
  | 0 => rfl
  | n + 1 => by
    show sumN (fun k => f k + g k) n + (f n + g n) = sumN f n + f n + (sumN g n + g n)
    rw [sumN_add f g n]
    omega
theorem sumN_0 : ∀ n, sumN (fun _ => 0) n = 0
  | 0 => rfl
  | n + 1 => by
    show sumN (fun _ => 0) n + 0 = 0
    rw [sumN_0 n]
/-- a sum, counted by levels -/
theorem sumN_ct (g : Nat → Nat) (B : Nat) : ∀ n, (∀ k, k < n → g k ≤ B) → sumN g n = sumN (fun v => ct (fun k => decide (v < g k)) n) B
  | 0, _ => (sumN_0 B).symm
  | n + 1, h => by
    show sumN g n + g n = sumN (fun v => ct (fun k => decide (v < g k)) n + (if decide (v < g n) then 1 else 0)) B
    rw [sumN_add, ← sumN_ct g B n (fun k hk => h k (by omega))]
    have : ∀ C, sumN (fun v => if decide (v < g n) then 1 else 0) C = ct (fun v => decide (v < g n)) C := fun C => by
      induction C with
      | zero => rfl
      | succ C ih =>
        show sumN _ C + _ = ct _ C + _
        rw [ih]
    rw [this, ct_below (g n) B (h n (by omega))]
theorem sumN_bd {f : Nat → Nat} {B : Nat} : ∀ {n : Nat}, (∀ k, k < n → f k ≤ B) → sumN f n ≤ B * n
  | 0, _ => Nat.zero_le _
  | n + 1, h => by
    have ih := sumN_bd (n := n) (fun k hk => h k (by omega))
    have := h n (by omega)
    show sumN f n + f n ≤ B * (n + 1)
    rw [Nat.mul_succ]
    omega
theorem smd_N {g : Nat → Int} {d : Nat → Nat} : ∀ {n : Nat}, (∀ k, k < n → g k = (d k : Int)) → smd g n = (sumN d n : Int)
  | 0, _ => rfl
  | n + 1, h => by
    show smd g n + g n = ((sumN d n + d n : Nat) : Int)
    rw [smd_N (fun k hk => h k (by omega)), h n (by omega)]
    omega
theorem mxd_up {g : Nat → Int} : ∀ {n k : Nat}, k < n → g k ≤ mxd g n
  | n + 1, k, h => by
    show g k ≤ (if mxd g n < g n then g n else mxd g n)
    by_cases e : k = n
    · subst e
      split <;> omega
    · have := mxd_up (g := g) (n := n) (k := k) (by omega)
      split <;> omega
theorem mxd_at {g : Nat → Int} : ∀ n, mxd g n = 0 ∨ ∃ k, k < n ∧ mxd g n = g k
  | 0 => Or.inl rfl
  | n + 1 => by
    show (if mxd g n < g n then g n else mxd g n) = 0 ∨ ∃ k, k < n + 1 ∧ (if mxd g n < g n then g n else mxd g n) = g k
    by_cases e : mxd g n < g n
    · rw [if_pos e]
      exact Or.inr ⟨n, by omega, rfl⟩
    · rw [if_neg e]
      rcases mxd_at (g := g) n with q | ⟨k, q1, q2⟩
      · exact Or.inl q
      · exact Or.inr ⟨k, by omega, q2⟩
theorem mxd_nn (g : Nat → Int) : ∀ n, 0 ≤ mxd g n
  | 0 => Int.le_refl 0
  | n + 1 => by
    have := mxd_nn g n
    show 0 ≤ (if mxd g n < g n then g n else mxd g n)
    split <;> omega
theorem mxd_le {g : Nat → Int} {n : Nat} {M : Int} (h0 : 0 ≤ M) (h : ∀ k, k < n → g k ≤ M) : mxd g n ≤ M := (mxd_rg h0 h).2
section ENUS
variable {G : (Nat → Nat) → Prop} {f : Nat → Nat → Nat} {m : Nat}
theorem enu_mx (hG : isG G) (h : enu G f m) (F : Nat → Int) : mxd F m = mxd (fun k => F (numG G (f k) 10)) m := by
  have hs := enu_sz hG h
  refine Int.le_antisymm (mxd_le (mxd_nn _ _) fun i hi => ?_) (mxd_le (mxd_nn _ _) fun k hk => ?_)
  · obtain ⟨k, q1, q2⟩ := enu_sur hG h hi
    have := mxd_up (g := fun k => F (numG G (f k) 10)) q1
    rw [← q2]
    exact this
  · have := (enu_nu hG h).1 k hk
    rw [hs] at this
    exact mxd_up this
theorem enu_sm (hG : isG G) (h : enu G f m) {F : Nat → Int} {d : Nat → Nat} (hF : ∀ i, i < m → 0 ≤ F i) (hd : ∀ k, k < m → F (numG G (f k) 10) = (d k : Int)) : smd F m = (sumN d m : Int) := by
  have e1 : smd F m = (sumN (fun i => (F i).toNat) m : Int) := smd_N fun k hk => by
    have := hF k hk
    omega
  rw [e1]
  have hs := enu_sz hG h
  obtain ⟨B, hB⟩ : ∃ B, ∀ k, k < m → (F k).toNat ≤ B := ⟨(mxd F m).toNat, fun k hk => by
    have := mxd_up (g := F) hk
    omega⟩
  have hB' : ∀ k, k < m → d k ≤ B := fun k hk => by
    have q := (enu_nu hG h).1 k hk
    rw [hs] at q
    have := hB _ q
    rw [hd k hk] at this
    omega
  rw [sumN_ct _ B m hB, sumN_ct d B m hB']
  refine congrArg _ (sumN_cg fun v _ => ?_)
  rw [← enu_ct hG h]
  refine ct_cg fun k hk => ?_
  rw [hd k hk]
  rfl
end ENUS
/-! order of rows -/
def lx (s t : Nat → Nat) : Prop := ∃ i, i < 10 ∧ (∀ j, j < i → s j = t j) ∧ s i < t i
section LX
variable {G : (Nat → Nat) → Prop} {f : Nat → Nat → Nat} {m : Nat}
theorem lx_lt (hG : isG G) {s t : Nat → Nat} (hs : G s) (ht : G t) (h : lx s t) : numG G s 10 < numG G t 10 := by
  obtain ⟨i, h1, h2, h3⟩ := h
  have e9 : 9 - (9 - i) = i := by omega
  have := numG_lex hG hs ht (n := 9 - i) (by omega) (by rw [e9]; exact h2) (by rw [e9]; exact h3) i (by omega)
  rw [show 9 - i + 1 + i = 10 by omega] at this
  exact this
theorem lx_tri (hG : isG G) {s t : Nat → Nat} (hs : G s) (ht : G t) (hne : s ≠ t) : lx s t ∨ lx t s := by
  have : ∃ p, p < 10 ∧ s p ≠ t p := Classical.byContradiction fun q => hne (pm_ext (hG.1 _ hs) (hG.1 _ ht) fun p hp => Classical.byContradiction fun r => q ⟨p, hp, r⟩)
  obtain ⟨n, h1, h2, h3 | h3⟩ := lex_tri this
  · exact Or.inl ⟨9 - n, by omega, h2, h3⟩
  · exact Or.inr ⟨9 - n, by omega, fun j hj => (h2 j hj).symm, h3⟩
theorem lx_num (hG : isG G) {s t : Nat → Nat} (hs : G s) (ht : G t) : numG G s 10 < numG G t 10 ↔ lx s t := ⟨fun h => by
  by_cases e : s = t
  · rw [e] at h
    omega
  · rcases lx_tri hG hs ht e with q | q
    · exact q
    · have := lx_lt hG ht hs q
      omega, lx_lt hG hs ht⟩
/-- so many are lower -/
theorem enu_low (hG : isG G) (h : enu G f m) {k : Nat} (hk : k < m) : numG G (f k) 10 = ct (fun j => dc (lx (f j) (f k))) m := by
  have hs := enu_sz hG h
  have q := (enu_nu hG h).1 k hk
  rw [hs] at q
  rw [← ct_below (numG G (f k) 10) m (Nat.le_of_lt q)]
  rw [← enu_ct hG h]
  refine ct_cg fun j hj => bl_iff ?_
  rw [decide_eq_true_iff, dc_t]
  exact lx_num hG (h.1 j hj) (h.1 k hk)
end LX
