/-! A walk breadth first gives least depths: the queue is in order, neighbours are at most one further. -/
def bT (i : Nat) (b : bSt) : Prop := (∀ j k, j ≤ k → k < b.2.length → b.1 (nth b.2 j) ≤ b.1 (nth b.2 k)) ∧ ∀ k, i < b.2.length → k < b.2.length → b.1 (nth b.2 k) ≤ b.1 (nth b.2 i) + 1
theorem bR_T {sz s i f : Nat} {b : bSt} (h : bI sz b) (ht : bT i b) (hi : i < b.2.length) (hf : nth b.2 i = f) : bT i (bR s (b.1 f + 1) b) := by
  by_cases hn : b.1 s < 0
  · have q : ∀ k, k < b.2.length → nth b.2 k ≠ s := fun k hk e => by
      have := (h.2.1 k hk).2.1
      rw [e] at this
      omega
    have e0 : bR s (b.1 f + 1) b = ((fun j => if j = s then b.1 f + 1 else b.1 j), b.2 ++ [s]) := if_pos hn
    have D : ∀ k, k < b.2.length + 1 → (if nth (b.2 ++ [s]) k = s then b.1 f + 1 else b.1 (nth (b.2 ++ [s]) k)) = if k < b.2.length then b.1 (nth b.2 k) else b.1 f + 1 := fun k hk => by
      by_cases hl : k < b.2.length
      · rw [nth_sn hl, if_neg (q k hl), if_pos hl]
      · have : k = b.2.length := by omega
        subst this
        rw [nth_sn', if_pos rfl, if_neg hl]
    have W : ∀ k, k < b.2.length → b.1 (nth b.2 k) ≤ b.1 f + 1 := fun k hk => by
      have := ht.2 k hi hk
      rw [hf] at this
      exact this
    rw [e0]
    refine ⟨fun j k h1 h2 => ?_, fun k h1 h2 => ?_⟩
    · have h2' : k < b.2.length + 1 := by simpa using h2
      show (if nth (b.2 ++ [s]) j = s then b.1 f + 1 else b.1 (nth (b.2 ++ [s]) j)) ≤ (if nth (b.2 ++ [s]) k = s then b.1 f + 1 else b.1 (nth (b.2 ++ [s]) k))
      rw [D j (by omega), D k h2']
      by_cases hj : j < b.2.length
      · rw [if_pos hj]
        by_cases hk : k < b.2.length
        · rw [if_pos hk]
          exact ht.1 j k h1 hk
        · rw [if_neg hk]
          exact W j hj
      · rw [if_neg hj, if_neg (by omega)]
        exact Int.le_refl _
    · have h2' : k < b.2.length + 1 := by simpa using h2
      show (if nth (b.2 ++ [s]) k = s then b.1 f + 1 else b.1 (nth (b.2 ++ [s]) k)) ≤ (if nth (b.2 ++ [s]) i = s then b.1 f + 1 else b.1 (nth (b.2 ++ [s]) i)) + 1
      rw [D k h2', D i (by omega), if_pos hi, hf]
      by_cases hk : k < b.2.length
      · rw [if_pos hk]
        exact W k hk
      · rw [if_neg hk]
        exact Int.le_refl _
  · rw [bR_keep hn]
    exact ht
/-- while the i-th of the queue, f, is worked on -/
def bP (sz i f : Nat) (b : bSt) : Prop := bI sz b ∧ i < b.2.length ∧ nth b.2 i = f ∧ bT i b
theorem bR_P {sz s i f : Nat} {b : bSt} (h : bP sz i f b) (hs : s < sz) : bP sz i f (bR s (b.1 f + 1) b) := by
  obtain ⟨h1, h2, h3, h4⟩ := h
  have q := h1.2.1 i h2
  rw [h3] at q
  refine ⟨bR_I h1 hs (by omega) (by omega), ?_, ?_, bR_T h1 h4 h2 h3⟩
  · exact Nat.lt_of_lt_of_le h2 (bLe_len (bR_le s _ b))
  · rw [bLe_nth (bR_le s _ b) h2]
    exact h3
theorem bW_P {sz i f : Nat} {nx : Nat → Nat} (hnx : ∀ s, s < sz → nx s < sz) : ∀ n to b, bP sz i f b → to < sz → bP sz i f (bW nx f n to b)
  | 0, _, _, h, _ => h
  | n + 1, to, b, h, hs => by
    show bP sz i f (if to = f then b else bW nx f n (nx to) (bR to (b.1 f + 1) b))
    by_cases e : to = f
    · rw [if_pos e]
      exact h
    · rw [if_neg e]
      exact bW_P hnx n (nx to) _ (bR_P h hs) (hnx to hs)
/-- the first one that is walked to is at most one further -/
theorem bR_one {sz s i f : Nat} {b : bSt} (h : bP sz i f b) (hs : s < sz) : (bR s (b.1 f + 1) b).1 s ≤ b.1 f + 1 := by
  by_cases hn : b.1 s < 0
  · rw [bR_same hn]
    exact Int.le_refl _
  · rw [bR_keep hn]
    rcases h.1.2.2 s hs with q | ⟨j, q1, q2⟩
    · omega
    · have := h.2.2.2.2 j h.2.1 q1
      rw [q2, h.2.2.1] at this
      exact this
theorem bP_dep {sz i f : Nat} {b b' : bSt} (h : bP sz i f b) (hl : bLe b b') : b'.1 f = b.1 f := by
  have q := (h.1.2.1 i h.2.1).2.1
  rw [h.2.2.1] at q
  exact hl.2 f q
theorem bW_one {sz i f t : Nat} {nx : Nat → Nat} (hnx : ∀ s, s < sz → nx s < sz) (ht : 1 ≤ t) {b : bSt} (h : bP sz i f b) (hf : f < sz) : (bW nx f t (nx f) b).1 (nx f) ≤ b.1 f + 1 := by
  obtain ⟨t, rfl⟩ : ∃ u, t = u + 1 := ⟨t - 1, by omega⟩
  show (if nx f = f then b else bW nx f t (nx (nx f)) (bR (nx f) (b.1 f + 1) b)).1 (nx f) ≤ b.1 f + 1
  by_cases e : nx f = f
  · rw [if_pos e, e]
    omega
  · rw [if_neg e]
    have q := bW_le nx f t (nx (nx f)) (bR (nx f) (b.1 f + 1) b)
    have p := (h.1.2.1 i h.2.1).2.1
    rw [h.2.2.1] at p
    rw [q.2 _ (bR_get (by omega))]
    exact bR_one h (hnx f hf)
theorem bA_P {sz i f ac t : Nat} {nx : Nat → Nat → Nat} (hnx : ∀ a s, a < ac → s < sz → nx a s < sz) (ht : 1 ≤ t) (hf : f < sz) : ∀ a b, a ≤ ac → bP sz i f b → bP sz i f (bA nx t f a b) ∧ ∀ c, c < a → (bA nx t f a b).1 (nx c f) ≤ b.1 f + 1
  | 0, b, _, h => ⟨h, fun c hc => absurd hc (Nat.not_lt_zero c)⟩
  | a + 1, b, ha, h => by
    obtain ⟨k1, k2⟩ := bA_P hnx ht hf a b (by omega) h
    show bP sz i f (bW (nx a) f t (nx a f) (bA nx t f a b)) ∧ ∀ c, c < a + 1 → (bW (nx a) f t (nx a f) (bA nx t f a b)).1 (nx c f) ≤ b.1 f + 1
    have e := bP_dep h (bA_le nx t f a b)
    refine ⟨bW_P (fun s hs => hnx a s (by omega) hs) t _ _ k1 (hnx a f (by omega) hf), fun c hc => ?_⟩
    by_cases ec : c = a
    · subst ec
      have := bW_one (fun s hs => hnx c s (by omega) hs) ht k1 hf
      rw [e] at this
      exact this
    · have p := (h.1.2.1 i h.2.1).2.1
      rw [h.2.2.1] at p
      have q := bA_nx (nx := nx) ht a b p c (by omega)
      rw [(bW_le (nx a) f t (nx a f) (bA nx t f a b)).2 _ q]
      exact k2 c (by omega)
theorem bQ_T {sz ac t : Nat} {nx : Nat → Nat → Nat} (hnx : ∀ a s, a < ac → s < sz → nx a s < sz) (ht : 1 ≤ t) : ∀ i b, bI sz b → bT 0 b → (bI sz (bQ nx t ac i b) ∧ bT i (bQ nx t ac i b)) ∧ ∀ j, j < i → j < (bQ nx t ac i b).2.length → ∀ a, a < ac → (bQ nx t ac i b).1 (nx a (nth (bQ nx t ac i b).2 j)) ≤ (bQ nx t ac i b).1 (nth (bQ nx t ac i b).2 j) + 1
  | 0, b, h, h0 => ⟨⟨h, h0⟩, fun j hj => absurd hj (Nat.not_lt_zero j)⟩
  | i + 1, b, h, h0 => by
    obtain ⟨⟨k1, k2⟩, k3⟩ := bQ_T hnx ht i b h h0
    have e0 : bQ nx t ac (i + 1) b = if i < (bQ nx t ac i b).2.length then bA nx t (nth (bQ nx t ac i b).2 i) ac (bQ nx t ac i b) else bQ nx t ac i b := rfl
    have k4 := bQ_nx hnx ht i b h
    rw [e0]
    generalize bQ nx t ac i b = B at k1 k2 k3 k4 ⊢
    by_cases hl : i < B.2.length
    · rw [if_pos hl]
      have hf := (k1.2.1 i hl).1
      have hP : bP sz i (nth B.2 i) B := ⟨k1, hl, rfl, k2⟩
      obtain ⟨m1, m2⟩ := bA_P hnx ht hf ac B (Nat.le_refl _) hP
      have le := bA_le nx t (nth B.2 i) ac B
      have nn := bA_nx (nx := nx) ht ac B (k1.2.1 i hl).2.1
      generalize hC : bA nx t (nth B.2 i) ac B = C at m1 m2 le nn ⊢
      refine ⟨⟨m1.1, m1.2.2.2.1, fun k q1 q2 => ?_⟩, fun j hj hj2 a ha => ?_⟩
      · have w1 := m1.2.2.2.2 k m1.2.1 q2
        have w2 := m1.2.2.2.1 i (i + 1) (by omega) q1
        omega
      · by_cases e : j = i
        · subst e
          rw [bLe_nth le hl]
          have := m2 a ha
          rw [le.2 _ (k1.2.1 j hl).2.1]
          exact this
        · have hjB : j < B.2.length := by omega
          have w := k3 j (by omega) hjB a ha
          rw [bLe_nth le hjB, le.2 _ (k1.2.1 j hjB).2.1]
          rw [le.2 _ (k4 j (by omega) hjB a ha)]
          exact w
    · rw [if_neg hl]
      refine ⟨⟨k1, k2.1, fun k q1 q2 => absurd q1 (by omega)⟩, fun j hj hj2 a ha => k3 j (by omega) hj2 a ha⟩
theorem bS_T {sz : Nat} (sv : Nat → Bool) : ∀ i, i ≤ sz → (∀ s, s < i → sv s = true → (bS sv i).1 s = 0) ∧ (∀ j, j < (bS sv i).2.length → (bS sv i).1 (nth (bS sv i).2 j) = 0)
  | 0, _ => ⟨fun s hs => absurd hs (Nat.not_lt_zero s), fun j hj => absurd hj (Nat.not_lt_zero j)⟩
  | i + 1, hi => by
    obtain ⟨k1, k2⟩ := bS_T (sz := sz) sv i (by omega)
    obtain ⟨c1, c2⟩ := bS_I (sz := sz) sv i (by omega)
    have e0 : bS sv (i + 1) = if sv i then bR i 0 (bS sv i) else bS sv i := rfl
    rw [e0]
    have hn := c2 i (Nat.le_refl i)
    generalize bS sv i = B at k1 k2 c1 c2 hn ⊢
    by_cases hv : sv i = true
    · rw [if_pos hv]
      have e1 : bR i 0 B = ((fun j => if j = i then 0 else B.1 j), B.2 ++ [i]) := if_pos (by omega)
      rw [e1]
      refine ⟨fun s hs hs2 => ?_, fun j hj => ?_⟩
      · show (if s = i then 0 else B.1 s) = 0
        by_cases e : s = i
        · rw [if_pos e]
        · rw [if_neg e]
          exact k1 s (by omega) hs2
      · have hj' : j < B.2.length + 1 := by simpa using hj
        show (if nth (B.2 ++ [i]) j = i then 0 else B.1 (nth (B.2 ++ [i]) j)) = 0
        by_cases e : nth (B.2 ++ [i]) j = i
        · rw [if_pos e]
        · rw [if_neg e]
          by_cases hl : j < B.2.length
          · rw [nth_sn hl]
            exact k2 j hl
          · have : j = B.2.length := by omega
            subst this
            rw [nth_sn'] at e
            exact absurd rfl e
    · rw [if_neg hv]
      refine ⟨fun s hs hs2 => ?_, k2⟩
      by_cases e : s = i
      · subst e
        exact absurd hs2 hv
      · exact k1 s (by omega) hs2
section LIP
variable {nx : Nat → Nat → Nat} {t ac sz : Nat} {sv : Nat → Bool}
/-- a neighbour is at most one further -/
theorem bF_lip (hnx : ∀ a s, a < ac → s < sz → nx a s < sz) (ht : 1 ≤ t) (h8 : sz ≤ 800) {B : bSt} (hB : bF nx t ac sz sv = B) {s a : Nat} (hs : s < sz) (h0 : 0 ≤ B.1 s) (ha : a < ac) : B.1 (nx a s) ≤ B.1 s + 1 := by
  obtain ⟨c1, -⟩ := bS_I (sz := sz) sv sz (Nat.le_refl _)
  obtain ⟨-, z2⟩ := bS_T (sz := sz) sv sz (Nat.le_refl _)
  have hT : bT 0 (bS sv sz) := ⟨fun j k h1 h2 => by rw [z2 j (by omega), z2 k h2]; exact Int.le_refl _, fun k h1 h2 => by rw [z2 k h2, z2 0 h1]; decide⟩
  obtain ⟨⟨k1, -⟩, k3⟩ := bQ_T (t := t) hnx ht 800 (bS sv sz) c1 hT
  have e : bQ nx t ac 800 (bS sv sz) = B := hB
  rw [e] at k1 k3
  have hle := bI_le k1
  rcases k1.2.2 s hs with q | ⟨j, q1, q2⟩
  · omega
  · have := k3 j (by omega) q1 a ha
    rw [q2] at this
    exact this
/-- the solved ones are at 0 -/
theorem bF_at0 {B : bSt} (hB : bF nx t ac sz sv = B) {s : Nat} (hs : s < sz) (h : sv s = true) : B.1 s = 0 := by
  obtain ⟨z1, -⟩ := bS_T (sz := sz) sv sz (Nat.le_refl _)
  have e : bQ nx t ac 800 (bS sv sz) = B := hB
  have := (bQ_le nx t ac 800 (bS sv sz)).2 s (by rw [z1 s hs h]; exact Int.le_refl 0)
  rw [e, z1 s hs h] at this
  exact this
end LIP
