/-! Walks over a graph, breadth first: depths and the queue; states by numbers. -/
abbrev bSt : Type := (Nat → Int) × List Nat
def bR (s : Nat) (v : Int) (b : bSt) : bSt := if b.1 s < 0 then ((fun j => if j = s then v else b.1 j), b.2 ++ [s]) else b
def bW (nx : Nat → Nat) (f : Nat) : Nat → Nat → bSt → bSt
  | 0, _, b => b
  | n + 1, to, b => if to = f then b else bW nx f n (nx to) (bR to (b.1 f + 1) b)
def bA (nx : Nat → Nat → Nat) (t f : Nat) : Nat → bSt → bSt
  | 0, b => b
  | a + 1, b => bW (nx a) f t (nx a f) (bA nx t f a b)
def bQ (nx : Nat → Nat → Nat) (t ac : Nat) : Nat → bSt → bSt
  | 0, b => b
  | i + 1, b => if i < (bQ nx t ac i b).2.length then bA nx t (nth (bQ nx t ac i b).2 i) ac (bQ nx t ac i b) else bQ nx t ac i b
/-- the solved ones first -/
def bS (sv : Nat → Bool) : Nat → bSt
  | 0 => (fun _ => -1, [])
  | i + 1 => if sv i then bR i 0 (bS sv i) else bS sv i
def bF (nx : Nat → Nat → Nat) (t ac sz : Nat) (sv : Nat → Bool) : bSt := bQ nx t ac 800 (bS sv sz)
/-- what holds of depths and queue -/
def bI (sz : Nat) (b : bSt) : Prop := b.2.length = ct (fun s => decide (0 ≤ b.1 s)) sz ∧ (∀ i, i < b.2.length → nth b.2 i < sz ∧ 0 ≤ b.1 (nth b.2 i) ∧ b.1 (nth b.2 i) ≤ (i : Int)) ∧ ∀ s, s < sz → b.1 s = -1 ∨ ∃ i, i < b.2.length ∧ nth b.2 i = s
theorem bI_le {sz : Nat} {b : bSt} (h : bI sz b) : b.2.length ≤ sz := by
  rw [h.1]
  exact ct_le _ _
theorem bI_lt {sz s : Nat} {b : bSt} (h : bI sz b) (hs : s < sz) (hn : b.1 s < 0) : b.2.length < sz := by
  rw [h.1]
  have := ct_lt (a := fun s => decide (0 ≤ b.1 s)) (b := fun _ => true) (i := s) (n := sz) (fun _ _ _ => rfl) hs (decide_eq_false (by omega)) rfl
  have h2 := ct_le (fun _ => true) sz
  omega
theorem bI_rg {sz s : Nat} {b : bSt} (h : bI sz b) (hs : s < sz) : -1 ≤ b.1 s ∧ b.1 s < (sz : Int) := by
  rcases h.2.2 s hs with e | ⟨i, hi, e⟩
  · rw [e]
    omega
  · obtain ⟨a1, a2, a3⟩ := h.2.1 i hi
    rw [e] at a2 a3
    have := bI_le h
    omega
theorem bR_I {sz s : Nat} {v : Int} {b : bSt} (h : bI sz b) (hs : s < sz) (h0 : 0 ≤ v) (hv : v ≤ (b.2.length : Int)) : bI sz (bR s v b) := by
  unfold bR
  split
  · rename_i hn
    have hne : ∀ i, i < b.2.length → nth b.2 i ≠ s := fun i hi e => by
      have := (h.2.1 i hi).2.1
      rw [e] at this
      omega
    refine ⟨?_, fun i hi => ?_, fun t ht => ?_⟩
    · show (b.2 ++ [s]).length = _
      rw [List.length_append]
      show b.2.length + 1 = _
      rw [h.1]
      refine (ct_set (i := s) hs ?_ ?_ fun k _ hk => ?_).symm
      · exact decide_eq_false (by omega)
      · show decide (0 ≤ if s = s then v else b.1 s) = true
        rw [if_pos rfl]
        exact decide_eq_true h0
      · show decide (0 ≤ if k = s then v else b.1 k) = _
        rw [if_neg hk]
    · have hi : i < b.2.length + 1 := by
        have : (b.2 ++ [s]).length = b.2.length + 1 := by rw [List.length_append]; rfl
        have hi' : i < (b.2 ++ [s]).length := hi
        omega
      show nth (b.2 ++ [s]) i < sz ∧ 0 ≤ (if nth (b.2 ++ [s]) i = s then v else b.1 (nth (b.2 ++ [s]) i)) ∧ (if nth (b.2 ++ [s]) i = s then v else b.1 (nth (b.2 ++ [s]) i)) ≤ (i : Int)
      by_cases e : i = b.2.length
      · rw [e, nth_ri (Nat.le_refl _), Nat.sub_self, nth_0, if_pos rfl]
        exact ⟨hs, h0, hv⟩
      · rw [nth_l (by omega), if_neg (hne i (by omega))]
        exact h.2.1 i (by omega)
    · show (if t = s then v else b.1 t) = -1 ∨ ∃ i, i < (b.2 ++ [s]).length ∧ nth (b.2 ++ [s]) i = t
      have hl : (b.2 ++ [s]).length = b.2.length + 1 := by rw [List.length_append]; rfl
      by_cases e : t = s
      · exact Or.inr ⟨b.2.length, by omega, by rw [nth_ri (Nat.le_refl _), Nat.sub_self, nth_0, e]⟩
      · rw [if_neg e]
        rcases h.2.2 t ht with q | ⟨i, hi, q⟩
        · exact Or.inl q
        · exact Or.inr ⟨i, by omega, by rw [nth_l hi, q]⟩
  · exact h
/-- never less: what was reached keeps its depth, the queue only grows -/
def bLe (b b' : bSt) : Prop := (∃ m, b'.2 = b.2 ++ m) ∧ ∀ s, 0 ≤ b.1 s → b'.1 s = b.1 s
theorem bLe_rf (b : bSt) : bLe b b := ⟨⟨[], (List.append_nil _).symm⟩, fun _ _ => rfl⟩
theorem bLe_tr {a b c : bSt} (h1 : bLe a b) (h2 : bLe b c) : bLe a c := by
  obtain ⟨⟨m, e1⟩, k1⟩ := h1
  obtain ⟨⟨m2, e2⟩, k2⟩ := h2
  refine ⟨⟨m ++ m2, by rw [e2, e1, List.append_assoc]⟩, fun s h => ?_⟩
  rw [k2 s (by rw [k1 s h]; exact h), k1 s h]
theorem bR_le (s : Nat) (v : Int) (b : bSt) : bLe b (bR s v b) := by
  unfold bR
  split
  · rename_i hn
    exact ⟨⟨[s], rfl⟩, fun t h => if_neg (fun e => by rw [e] at h; omega)⟩
  · exact bLe_rf b
theorem bLe_len {b b' : bSt} (h : bLe b b') : b.2.length ≤ b'.2.length := by
  obtain ⟨⟨m, e⟩, -⟩ := h
  rw [e, List.length_append]
  omega
theorem bLe_nth {b b' : bSt} (h : bLe b b') {i : Nat} (hi : i < b.2.length) : nth b'.2 i = nth b.2 i := by
  obtain ⟨⟨m, e⟩, -⟩ := h
  rw [e, nth_l hi]
theorem bW_le (nx : Nat → Nat) (f : Nat) : ∀ n to b, bLe b (bW nx f n to b)
  | 0, _, b => bLe_rf b
  | n + 1, to, b => by
    show bLe b (if to = f then b else bW nx f n (nx to) (bR to (b.1 f + 1) b))
    split
    · exact bLe_rf b
    · exact bLe_tr (bR_le _ _ _) (bW_le nx f n _ _)
theorem bW_I {sz f i : Nat} {nx : Nat → Nat} (hnx : ∀ s, s < sz → nx s < sz) : ∀ n to b, bI sz b → to < sz → i < b.2.length → nth b.2 i = f → bI sz (bW nx f n to b)
  | 0, _, b, h, _, _, _ => h
  | n + 1, to, b, h, ht, hi, hf => by
    show bI sz (if to = f then b else bW nx f n (nx to) (bR to (b.1 f + 1) b))
    split
    · exact h
    · obtain ⟨a1, a2, a3⟩ := h.2.1 i hi
      rw [hf] at a2 a3
      have hle := bR_le to (b.1 f + 1) b
      refine bW_I (i := i) hnx n _ _ (bR_I h ht (by omega) (by omega)) (hnx _ ht) ?_ ?_
      · have := bLe_len hle
        omega
      · rw [bLe_nth hle hi, hf]
theorem bA_le (nx : Nat → Nat → Nat) (t f : Nat) : ∀ a b, bLe b (bA nx t f a b)
  | 0, b => bLe_rf b
  | a + 1, b => bLe_tr (bA_le nx t f a b) (bW_le _ _ _ _ _)
theorem bA_I {sz f i ac t : Nat} {nx : Nat → Nat → Nat} (hnx : ∀ a s, a < ac → s < sz → nx a s < sz) : ∀ a b, a ≤ ac → bI sz b → i < b.2.length → nth b.2 i = f → bI sz (bA nx t f a b)
  | 0, b, _, h, _, _ => h
  | a + 1, b, ha, h, hi, hf => by
    have hle := bA_le nx t f a b
    have hfs : f < sz := by
      have := (h.2.1 i hi).1
      rwa [hf] at this
    refine bW_I (i := i) (fun s hs => hnx a s (by omega) hs) _ _ _ (bA_I hnx a b (by omega) h hi hf) (hnx a f (by omega) hfs) ?_ ?_
    · have := bLe_len hle
      omega
    · rw [bLe_nth hle hi, hf]
theorem bQ_le (nx : Nat → Nat → Nat) (t ac : Nat) : ∀ i b, bLe b (bQ nx t ac i b)
  | 0, b => bLe_rf b
  | i + 1, b => by
    show bLe b (if i < (bQ nx t ac i b).2.length then bA nx t (nth (bQ nx t ac i b).2 i) ac (bQ nx t ac i b) else bQ nx t ac i b)
    split
    · exact bLe_tr (bQ_le nx t ac i b) (bA_le _ _ _ _ _)
    · exact bQ_le nx t ac i b
theorem bQ_I {sz ac t : Nat} {nx : Nat → Nat → Nat} (hnx : ∀ a s, a < ac → s < sz → nx a s < sz) : ∀ i b, bI sz b → bI sz (bQ nx t ac i b)
  | 0, b, h => h
  | i + 1, b, h => by
    show bI sz (if i < (bQ nx t ac i b).2.length then bA nx t (nth (bQ nx t ac i b).2 i) ac (bQ nx t ac i b) else bQ nx t ac i b)
    split
    · rename_i hi
      exact bA_I hnx ac _ (Nat.le_refl _) (bQ_I hnx i b h) hi rfl
    · exact bQ_I hnx i b h
theorem bQ_end {ac t : Nat} {nx : Nat → Nat → Nat} {i : Nat} {b : bSt} (h : (bQ nx t ac i b).2.length ≤ i) : ∀ m, bQ nx t ac (i + m) b = bQ nx t ac i b
  | 0 => rfl
  | m + 1 => by
    have ih := bQ_end h m
    show (if i + m < (bQ nx t ac (i + m) b).2.length then _ else bQ nx t ac (i + m) b) = _
    rw [ih, if_neg (by omega)]
theorem bS_I {sz : Nat} (sv : Nat → Bool) : ∀ i, i ≤ sz → bI sz (bS sv i) ∧ ∀ s, i ≤ s → (bS sv i).1 s = -1
  | 0, _ => ⟨⟨(ct_z fun _ _ => rfl).symm, fun i hi => absurd hi (Nat.not_lt_zero i), fun _ _ => Or.inl rfl⟩, fun _ _ => rfl⟩
  | i + 1, hi => by
    obtain ⟨h1, h2⟩ := bS_I (sz := sz) sv i (by omega)
    show bI sz (if sv i then bR i 0 (bS sv i) else bS sv i) ∧ ∀ s, i + 1 ≤ s → (if sv i then bR i 0 (bS sv i) else bS sv i).1 s = -1
    split
    · refine ⟨bR_I h1 (by omega) (Int.le_refl 0) (by omega), fun s hs => ?_⟩
      unfold bR
      split
      · show (if s = i then 0 else (bS sv i).1 s) = -1
        rw [if_neg (by omega)]
        exact h2 s (by omega)
      · exact h2 s (by omega)
    · exact ⟨h1, fun s hs => h2 s (by omega)⟩
theorem bF_I {sz ac t : Nat} {nx : Nat → Nat → Nat} {sv : Nat → Bool} (hnx : ∀ a s, a < ac → s < sz → nx a s < sz) : bI sz (bF nx t ac sz sv) := bQ_I hnx 800 _ (bS_I sv sz (Nat.le_refl _)).1
/-- times beyond the way around don't matter -/
theorem bW_more {nx : Nat → Nat} {f : Nat} : ∀ c n to b, itf nx c to = f → c ≤ n → bW nx f n to b = bW nx f c to b
  | 0, n, to, b, h, _ => by
    have h : to = f := h
    cases n with
    | zero => rfl
    | succ n =>
      show (if to = f then b else _) = b
      exact if_pos h
  | c + 1, n + 1, to, b, h, hn => by
    show (if to = f then b else bW nx f n (nx to) (bR to (b.1 f + 1) b)) = (if to = f then b else bW nx f c (nx to) (bR to (b.1 f + 1) b))
    split
    · rfl
    · exact bW_more c n _ _ h (by omega)
theorem bW_eq {nx : Nat → Nat} {f c n m to : Nat} {b : bSt} (h : itf nx c to = f) (hn : c ≤ n) (hm : c ≤ m) : bW nx f n to b = bW nx f m to b := (bW_more c n to b h hn).trans (bW_more c m to b h hm).symm
/-! states by numbers -/
theorem ct_find {b : Nat → Bool} {r : Nat} : ∀ {n : Nat}, r < ct b n → ∃ v, v < n ∧ b v = true ∧ ct b v = r
  | 0, h => absurd h (Nat.not_lt_zero r)
  | n + 1, h => by
    by_cases c : r < ct b n
    · obtain ⟨v, h1, h2, h3⟩ := ct_find c
      exact ⟨v, by omega, h2, h3⟩
    · have h' : r < ct b n + (if b n then 1 else 0) := h
      cases e : b n with
      | false =>
        rw [e] at h'
        simp only [Bool.false_eq_true, if_false] at h'
        omega
      | true =>
        rw [e] at h'
        simp only [if_true] at h'
        exact ⟨n, by omega, e, by omega⟩
theorem num_sur {G : (Nat → Nat) → Prop} (hG : isG G) : ∀ n, n ≤ 10 → ∀ (e : Nat → Nat) (i : Nat), G e → i < szG G n → ∃ s, G s ∧ (∀ p, p < 10 - n → s p = e p) ∧ numG G s n = i
  | 0, _, e, i, he, hi => ⟨e, he, fun _ _ => rfl, by
    have : i < 1 := hi
    show 0 = i
    omega⟩
  | n + 1, hn, e, i, he, hi => by
    have hi' : i < szG G n * cntG G (9 - n) := hi
    have hp := szG_pos hG n
    have hr : i / szG G n < cntG G (9 - n) := by
      rw [Nat.div_lt_iff_lt_mul hp, Nat.mul_comm]
      exact hi'
    rw [← low_ct hG he] at hr
    obtain ⟨v, h1, h2, h3⟩ := ct_find hr
    obtain ⟨g, a, b, c⟩ := dc_t.mp h2
    obtain ⟨s, s1, s2, s3⟩ := num_sur hG n (by omega) g (i % szG G n) a (Nat.mod_lt _ hp)
    have hse : ∀ p, p < 9 - n → s p = e p := fun p hp => (s2 p (by omega)).trans (b p hp)
    refine ⟨s, s1, fun p hp => hse p (by omega), ?_⟩
    show clG G s (9 - n) * szG G n + numG G s n = i
    have hcl : clG G s (9 - n) = i / szG G n := by
      rw [← h3]
      unfold clG
      rw [s2 (9 - n) (by omega), c]
      exact ct_cg fun v _ => dc_cg ⟨fun ⟨g, a, b, c⟩ => ⟨g, a, fun i hi => (b i hi).trans (hse i hi), c⟩, fun ⟨g, a, b, c⟩ => ⟨g, a, fun i hi => (b i hi).trans (hse i hi).symm, c⟩⟩
    rw [hcl, s3, Nat.mul_comm]
    exact Nat.div_add_mod i (szG G n)
noncomputable def stG (G : (Nat → Nat) → Prop) (i : Nat) : Nat → Nat := Classical.epsilon (fun s => G s ∧ numG G s 10 = i)
theorem stG_sp {G : (Nat → Nat) → Prop} (hG : isG G) {i : Nat} (hi : i < szG G 10) : G (stG G i) ∧ numG G (stG G i) 10 = i := by
  obtain ⟨s, h1, -, h3⟩ := num_sur hG 10 (Nat.le_refl _) _ i hG.2.1 hi
  exact Classical.epsilon_spec (p := fun s => G s ∧ numG G s 10 = i) ⟨s, h1, h3⟩
theorem stG_num {G : (Nat → Nat) → Prop} (hG : isG G) {s : Nat → Nat} (hs : G s) : stG G (numG G s 10) = s := by
  obtain ⟨h1, h2⟩ := stG_sp hG (numG_lt hG hs 10 (Nat.le_refl _))
  exact numG_inj hG h1 hs h2
