/-! Breadth first: all is reached, and what isn't a start has a nearer neighbour. -/
def bPar (nx : Nat → Nat → Nat) (t ac sz : Nat) (sv : Nat → Bool) (b : bSt) : Prop := ∀ s, s < sz → 0 ≤ b.1 s → (b.1 s = 0 ∧ sv s = true) ∨ ∃ f a j, f < sz ∧ a < ac ∧ j < t ∧ 0 ≤ b.1 f ∧ b.1 s = b.1 f + 1 ∧ itf (nx a) (j + 1) f = s ∧ ∀ i, i ≤ j → itf (nx a) (i + 1) f ≠ f
theorem bR_same {s : Nat} {v : Int} {b : bSt} (h : b.1 s < 0) : (bR s v b).1 s = v := by
  unfold bR
  rw [if_pos h]
  exact if_pos rfl
theorem bR_keep {s : Nat} {v : Int} {b : bSt} (h : ¬ b.1 s < 0) : bR s v b = b := if_neg h
theorem bR_else {s q : Nat} {v : Int} {b : bSt} (h : q ≠ s) : (bR s v b).1 q = b.1 q := by
  unfold bR
  split
  · exact if_neg h
  · rfl
theorem bR_get {s : Nat} {v : Int} {b : bSt} (hv : 0 ≤ v) : 0 ≤ (bR s v b).1 s := by
  by_cases h : b.1 s < 0
  · rw [bR_same h]
    exact hv
  · rw [bR_keep h]
    omega
theorem bR_par {nx : Nat → Nat → Nat} {t ac sz : Nat} {sv : Nat → Bool} {b : bSt} {f a j : Nat} (h : bPar nx t ac sz sv b) (hf : f < sz) (ha : a < ac) (hj : j < t) (h0 : 0 ≤ b.1 f) (hi : ∀ i, i ≤ j → itf (nx a) (i + 1) f ≠ f) : bPar nx t ac sz sv (bR (itf (nx a) (j + 1) f) (b.1 f + 1) b) := by
  by_cases hn : b.1 (itf (nx a) (j + 1) f) < 0
  · intro s hs hd
    have K : ∀ q, 0 ≤ b.1 q → (bR (itf (nx a) (j + 1) f) (b.1 f + 1) b).1 q = b.1 q := fun q hq => bR_else (fun e => by rw [e] at hq; omega)
    by_cases e : s = itf (nx a) (j + 1) f
    · subst e
      right
      refine ⟨f, a, j, hf, ha, hj, ?_, ?_, rfl, hi⟩
      · rw [K f h0]
        exact h0
      · rw [K f h0, bR_same hn]
    · rw [bR_else e] at hd ⊢
      rcases h s hs hd with g | ⟨f', a', j', g1, g2, g3, g4, g5, g6, g7⟩
      · exact Or.inl g
      · right
        refine ⟨f', a', j', g1, g2, g3, ?_, ?_, g6, g7⟩
        · rw [K f' g4]
          exact g4
        · rw [K f' g4]
          exact g5
  · rw [bR_keep hn]
    exact h
theorem bW_par {nx : Nat → Nat → Nat} {t ac sz f a : Nat} {sv : Nat → Bool} (hf : f < sz) (ha : a < ac) : ∀ n j b, j + n = t → (∀ i, i < j → itf (nx a) (i + 1) f ≠ f) → bPar nx t ac sz sv b → 0 ≤ b.1 f → bPar nx t ac sz sv (bW (nx a) f n (itf (nx a) (j + 1) f) b)
  | 0, _, b, _, _, h, _ => h
  | n + 1, j, b, hj, hi, h, h0 => by
    show bPar nx t ac sz sv (if itf (nx a) (j + 1) f = f then b else bW (nx a) f n (nx a (itf (nx a) (j + 1) f)) (bR (itf (nx a) (j + 1) f) (b.1 f + 1) b))
    split
    · exact h
    · rename_i hne
      rw [← itf_s (nx a) (j + 1) f]
      have hi' : ∀ i, i ≤ j → itf (nx a) (i + 1) f ≠ f := fun i q => by
        by_cases e : i = j
        · rw [e]
          exact hne
        · exact hi i (by omega)
      refine bW_par hf ha n (j + 1) _ (by omega) (fun i q => hi' i (by omega)) (bR_par h hf ha (by omega) h0 hi') ?_
      rw [bR_else (fun e => hne e.symm)]
      exact h0
theorem bA_par {nx : Nat → Nat → Nat} {t ac sz f : Nat} {sv : Nat → Bool} (hf : f < sz) : ∀ a b, a ≤ ac → bPar nx t ac sz sv b → 0 ≤ b.1 f → bPar nx t ac sz sv (bA nx t f a b)
  | 0, b, _, h, _ => h
  | a + 1, b, ha, h, h0 => by
    refine bW_par (a := a) hf (by omega) t 0 _ (by omega) (fun i q => absurd q (Nat.not_lt_zero i)) (bA_par hf a b (by omega) h h0) ?_
    rw [(bA_le nx t f a b).2 f h0]
    exact h0
theorem bQ_par {nx : Nat → Nat → Nat} {t ac sz : Nat} {sv : Nat → Bool} (hnx : ∀ a s, a < ac → s < sz → nx a s < sz) : ∀ i b, bI sz b → bPar nx t ac sz sv b → bPar nx t ac sz sv (bQ nx t ac i b)
  | 0, b, _, h => h
  | i + 1, b, hI, h => by
    show bPar nx t ac sz sv (if i < (bQ nx t ac i b).2.length then bA nx t (nth (bQ nx t ac i b).2 i) ac (bQ nx t ac i b) else bQ nx t ac i b)
    have ih := bQ_par hnx i b hI h
    split
    · rename_i hi
      have g := (bQ_I hnx (t := t) i b hI).2.1 i hi
      exact bA_par g.1 ac _ (Nat.le_refl _) ih g.2.1
    · exact ih
theorem bS_par {nx : Nat → Nat → Nat} {t ac sz : Nat} {sv : Nat → Bool} : ∀ i, i ≤ sz → bPar nx t ac sz sv (bS sv i)
  | 0, _ => fun s _ h => by
    have h : (0 : Int) ≤ -1 := h
    omega
  | i + 1, hi => by
    have ih := bS_par (nx := nx) (t := t) (ac := ac) (sz := sz) (sv := sv) i (by omega)
    have hI := bS_I (sz := sz) sv i (by omega)
    show bPar nx t ac sz sv (if sv i then bR i 0 (bS sv i) else bS sv i)
    split
    · rename_i hs
      have hn : (bS sv i).1 i < 0 := by
        rw [hI.2 i (Nat.le_refl _)]
        decide
      intro s hs' hd
      have K : ∀ q, 0 ≤ (bS sv i).1 q → (bR i 0 (bS sv i)).1 q = (bS sv i).1 q := fun q hq => bR_else (fun e => by rw [e] at hq; omega)
      by_cases e : s = i
      · subst e
        exact Or.inl ⟨bR_same hn, hs⟩
      · rw [bR_else e] at hd ⊢
        rcases ih s hs' hd with g | ⟨f', a', j', g1, g2, g3, g4, g5, g6, g7⟩
        · exact Or.inl g
        · right
          refine ⟨f', a', j', g1, g2, g3, ?_, ?_, g6, g7⟩
          · rw [K f' g4]
            exact g4
          · rw [K f' g4]
            exact g5
    · exact ih
theorem bF_par {nx : Nat → Nat → Nat} {t ac sz : Nat} {sv : Nat → Bool} (hnx : ∀ a s, a < ac → s < sz → nx a s < sz) : bPar nx t ac sz sv (bF nx t ac sz sv) := bQ_par hnx 800 _ (bS_I sv sz (Nat.le_refl _)).1 (bS_par sz (Nat.le_refl _))
theorem bA_nx {nx : Nat → Nat → Nat} {t f : Nat} (ht : 1 ≤ t) : ∀ a b, 0 ≤ b.1 f → ∀ c, c < a → 0 ≤ (bA nx t f a b).1 (nx c f)
  | 0, _, _, c, hc => absurd hc (Nat.not_lt_zero c)
  | a + 1, b, h0, c, hc => by
    have hle := bA_le nx t f a b
    have h1 : 0 ≤ (bA nx t f a b).1 f := by
      rw [hle.2 f h0]
      exact h0
    show 0 ≤ (bW (nx a) f t (nx a f) (bA nx t f a b)).1 (nx c f)
    by_cases e : c = a
    · subst e
      obtain ⟨n, rfl⟩ : ∃ n, t = n + 1 := ⟨t - 1, by omega⟩
      show 0 ≤ (if nx c f = f then bA nx (n + 1) f c b else bW (nx c) f n (nx c (nx c f)) (bR (nx c f) ((bA nx (n + 1) f c b).1 f + 1) (bA nx (n + 1) f c b))).1 (nx c f)
      split
      · rename_i hs
        rw [hs]
        exact h1
      · have g : 0 ≤ (bR (nx c f) ((bA nx (n + 1) f c b).1 f + 1) (bA nx (n + 1) f c b)).1 (nx c f) := bR_get (by omega)
        rw [(bW_le (nx c) f n _ _).2 _ g]
        exact g
    · have g := bA_nx (nx := nx) ht a b h0 c (by omega)
      rw [(bW_le (nx a) f t _ _).2 _ g]
      exact g
theorem bQ_nx {nx : Nat → Nat → Nat} {t ac sz : Nat} (hnx : ∀ a s, a < ac → s < sz → nx a s < sz) (ht : 1 ≤ t) : ∀ i b, bI sz b → ∀ j, j < i → j < (bQ nx t ac i b).2.length → ∀ a, a < ac → 0 ≤ (bQ nx t ac i b).1 (nx a (nth (bQ nx t ac i b).2 j))
  | 0, _, _, j, hj, _, _, _ => absurd hj (Nat.not_lt_zero j)
  | i + 1, b, hI, j, hj, hl, a, ha => by
    have ih := bQ_nx hnx ht i b hI
    have hI' := bQ_I hnx (t := t) i b hI
    have e : bQ nx t ac (i + 1) b = (if i < (bQ nx t ac i b).2.length then bA nx t (nth (bQ nx t ac i b).2 i) ac (bQ nx t ac i b) else bQ nx t ac i b) := rfl
    rw [e] at hl ⊢
    by_cases hi : i < (bQ nx t ac i b).2.length
    · rw [if_pos hi] at hl ⊢
      have hle := bA_le nx t (nth (bQ nx t ac i b).2 i) ac (bQ nx t ac i b)
      rw [bLe_nth hle (show j < (bQ nx t ac i b).2.length by omega)]
      by_cases ej : j = i
      · subst ej
        exact bA_nx ht ac _ (hI'.2.1 j hi).2.1 a ha
      · have g := ih j (by omega) (by omega) a ha
        rw [hle.2 _ g]
        exact g
    · rw [if_neg hi] at hl ⊢
      exact ih j (by omega) hl a ha
/-- what is reached has all its neighbours reached -/
theorem bF_nx {nx : Nat → Nat → Nat} {t ac sz : Nat} {sv : Nat → Bool} (hnx : ∀ a s, a < ac → s < sz → nx a s < sz) (ht : 1 ≤ t) (h8 : sz ≤ 800) {s a : Nat} (hs : s < sz) (h0 : 0 ≤ (bF nx t ac sz sv).1 s) (ha : a < ac) : 0 ≤ (bF nx t ac sz sv).1 (nx a s) := by
  have hI := bF_I (t := t) (sv := sv) hnx
  rcases hI.2.2 s hs with e | ⟨j, hj, e⟩
  · omega
  · have hl := bI_le hI
    have g0 := bQ_nx hnx ht 800 (bS sv sz) (bS_I sv sz (Nat.le_refl _)).1
    rw [bF_eq] at g0
    have g := g0 j (by omega) hj a ha
    rw [e] at g
    exact g
theorem bF_src {nx : Nat → Nat → Nat} {t ac sz : Nat} {sv : Nat → Bool} {s : Nat} (hs : s < sz) (h : sv s = true) : 0 ≤ (bF nx t ac sz sv).1 s := by
  have key : ∀ i, s < i → 0 ≤ (bS sv i).1 s := by
    intro i
    induction i with
    | zero => exact fun q => absurd q (Nat.not_lt_zero s)
    | succ i ih =>
      intro q
      show 0 ≤ (if sv i then bR i 0 (bS sv i) else bS sv i).1 s
      by_cases e : s = i
      · subst e
        rw [if_pos h]
        exact bR_get (Int.le_refl 0)
      · have g := ih (by omega)
        split
        · rw [(bR_le _ _ _).2 s g]
          exact g
        · exact g
  have g := key sz hs
  rw [← bF_eq, (bQ_le nx t ac 800 _).2 s g]
  exact g
section BFG
variable {n r : Nat} {tn : Nat → Nat → Nat} {col st : Nat → Nat}
theorem nxG_lt (hz : zOK n r tn col st) {a s : Nat} (ha : a < 2 * r) (hs : s < szG (zG r tn) 10) : nxG (zG r tn) tn a s < szG (zG r tn) 10 := numG_lt (zG_is hz) ((zG_is hz).2.2.1 _ _ (stG_sp (zG_is hz) hs).1 (zG_tn hz ha)) 10 (Nat.le_refl _)
theorem stG_nx (hz : zOK n r tn col st) {a s : Nat} (ha : a < 2 * r) (hs : s < szG (zG r tn) 10) : stG (zG r tn) (nxG (zG r tn) tn a s) = fun p => stG (zG r tn) s (tn a p) := stG_num (zG_is hz) ((zG_is hz).2.2.1 _ _ (stG_sp (zG_is hz) hs).1 (zG_tn hz ha))
theorem nxG_back (hz : zOK n r tn col st) {a s : Nat} (ha : a < 2 * r) (hs : s < szG (zG r tn) 10) : nxG (zG r tn) tn (fl a) (nxG (zG r tn) tn a s) = s := by
  obtain ⟨f1, f2⟩ := tn_fl hz ha
  have e := stG_nx hz ha hs
  show numG (zG r tn) (fun p => stG (zG r tn) (nxG (zG r tn) tn a s) (tn (fl a) p)) 10 = s
  rw [e]
  have : (fun p => stG (zG r tn) s (tn a (tn (fl a) p))) = stG (zG r tn) s := funext fun p => congrArg _ (f2 p)
  rw [show (fun p => (fun p => stG (zG r tn) s (tn a p)) (tn (fl a) p)) = stG (zG r tn) s from this]
  exact (stG_sp (zG_is hz) hs).2
/-- a walk over a puzzle's graph comes to all -/
theorem bF_reach (hz : zOK n r tn col st) (h8 : szG (zG r tn) 10 ≤ 800) {t : Nat} (ht : 1 ≤ t) {sv : Nat → Bool} {s0 : Nat} (hs0 : s0 < szG (zG r tn) 10) (hv : sv s0 = true) {B : bSt} (hB : bF (nxG (zG r tn) tn) t (2 * r) (szG (zG r tn) 10) sv = B) {s : Nat} (hs : s < szG (zG r tn) 10) : 0 ≤ B.1 s := by
  have hG := zG_is hz
  have hnx : ∀ a s, a < 2 * r → s < szG (zG r tn) 10 → nxG (zG r tn) tn a s < szG (zG r tn) 10 := fun a s ha hs => nxG_lt hz ha hs
  have hcl : ∀ s a, s < szG (zG r tn) 10 → 0 ≤ B.1 s → a < 2 * r → 0 ≤ B.1 (nxG (zG r tn) tn a s) := fun s a q1 q2 q3 => by
    rw [← hB] at q2 ⊢
    exact bF_nx hnx ht h8 q1 q2 q3
  have h00 : 0 ≤ B.1 s0 := by
    rw [← hB]
    exact bF_src hs0 hv
  have key : ∀ h, zG r tn h → zG r tn h ∧ ∀ f, zG r tn f → 0 ≤ B.1 (numG (zG r tn) f 10) → 0 ≤ B.1 (numG (zG r tn) (fun p => f (h p)) 10) := by
    intro h hh
    refine hh (fun h => zG r tn h ∧ ∀ f, zG r tn f → 0 ≤ B.1 (numG (zG r tn) f 10) → 0 ≤ B.1 (numG (zG r tn) (fun p => f (h p)) 10)) ⟨hG.2.1, fun f hf q => q⟩ (fun g hg => ?_) (fun g1 g2 q1 q2 => ⟨hG.2.2.1 _ _ q1.1 q2.1, fun f hf q => q2.2 (fun p => f (g1 p)) (hG.2.2.1 _ _ hf q1.1) (q1.2 f hf q)⟩)
    obtain ⟨i, hi, rfl⟩ := hg
    refine ⟨zG_tn hz (by omega), fun f hf q => ?_⟩
    have g := hcl _ (2 * i) (numG_lt hG hf 10 (Nat.le_refl _)) q (by omega)
    unfold nxG at g
    rw [stG_num hG hf] at g
    exact g
  obtain ⟨g0, e0⟩ := stG_sp hG hs0
  obtain ⟨g1, e1⟩ := stG_sp hG hs
  have hm := hG.2.2.1 _ _ (hG.2.2.2 _ g0) g1
  have g := (key _ hm).2 (stG (zG r tn) s0) g0 (by rw [e0]; exact h00)
  have e : (fun p => stG (zG r tn) s0 (vi 10 (stG (zG r tn) s0) (stG (zG r tn) s p))) = stG (zG r tn) s := funext fun p => vi_r (hG.1 _ g0) _
  rw [show (fun p => stG (zG r tn) s0 ((fun p => vi 10 (stG (zG r tn) s0) (stG (zG r tn) s p)) p)) = stG (zG r tn) s from e, e1] at g
  exact g
theorem itf_nx (hz : zOK n r tn col st) {a s : Nat} (ha : a < 2 * r) (hs : s < szG (zG r tn) 10) : ∀ j, itf (nxG (zG r tn) tn a) j s < szG (zG r tn) 10 := by
  intro j
  induction j with
  | zero => exact hs
  | succ j ih =>
    rw [itf_s]
    exact nxG_lt hz ha ih
/-- and back -/
theorem itf_bk (hz : zOK n r tn col st) {a s : Nat} (ha : a < 2 * r) (hs : s < szG (zG r tn) 10) : ∀ i j, itf (nxG (zG r tn) tn (fl a)) i (itf (nxG (zG r tn) tn a) (j + i) s) = itf (nxG (zG r tn) tn a) j s
  | 0, _ => rfl
  | i + 1, j => by
    show itf (nxG (zG r tn) tn (fl a)) i (nxG (zG r tn) tn (fl a) (itf (nxG (zG r tn) tn a) (j + i + 1) s)) = _
    rw [itf_s, nxG_back hz ha (itf_nx hz ha hs _)]
    exact itf_bk hz ha hs i j
theorem bF_near (hz : zOK n r tn col st) {t : Nat} {sv : Nat → Bool} {B : bSt} (hB : bF (nxG (zG r tn) tn) t (2 * r) (szG (zG r tn) 10) sv = B) {s : Nat} (hs : s < szG (zG r tn) 10) (h0 : 0 ≤ B.1 s) (hv : sv s = false) : ∃ a j, a < 2 * r ∧ j < t ∧ (∀ i, i ≤ j → itf (nxG (zG r tn) tn a) (i + 1) s ≠ s) ∧ B.1 (itf (nxG (zG r tn) tn a) (j + 1) s) = B.1 s - 1 := by
  have hp := bF_par (t := t) (sv := sv) (fun a s ha hs => nxG_lt hz ha hs)
  rw [hB] at hp
  rcases hp s hs h0 with ⟨_, g⟩ | ⟨f, a, j, g1, g2, g3, g4, g5, g6, g7⟩
  · rw [hv] at g
    cases g
  · obtain ⟨f1, f2⟩ := tn_fl hz g2
    have e1 : ∀ i, i ≤ j → itf (nxG (zG r tn) tn (fl a)) (i + 1) s = itf (nxG (zG r tn) tn a) (j - i) f := fun i hi => by
      have := itf_bk hz g2 g1 (i + 1) (j - i)
      rw [show j - i + (i + 1) = j + 1 by omega, g6] at this
      exact this
    refine ⟨fl a, j, f1, g3, fun i hi q => ?_, ?_⟩
    · rw [e1 i hi] at q
      have g := itf_bk hz g2 g1 (j - i) (i + 1)
      rw [show i + 1 + (j - i) = j + 1 by omega, g6, ← q] at g
      have g' := itf_bk hz g2 g1 (j - i) 0
      rw [Nat.zero_add] at g'
      rw [g'] at g
      exact g7 i hi g.symm
    · rw [e1 j (Nat.le_refl _), Nat.sub_self]
      show B.1 f = _
      omega
end BFG
