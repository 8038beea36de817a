/-! Distances of a puzzle whose colours are all different: the least number of turns. -/
noncomputable def dF (k r : Nat) (tn : Nat → Nat → Nat) : Nat → Int := fF (zBF k r tn (fun p => p))
theorem dF_P {k r : Nat} {tn : Nat → Nat → Nat} {P : (Nat → Int) → Prop} (h : ∀ B, zBF k r tn (fun p => p) = B → P (fF B)) : P (dF k r tn) := h _ rfl
noncomputable def dG (k r : Nat) (tn : Nat → Nat → Nat) (s : Nat → Nat) : Int := dF k r tn (numG (zG r tn) s 10)
theorem tt_1 (k : Nat) : 1 ≤ tt k := by
  unfold tt
  split <;> omega
theorem tt_0 : tt 0 = 1 := rfl
theorem pm_ext {s t : Nat → Nat} (hs : pm 10 s) (ht : pm 10 t) (h : ∀ p, p < 10 → s p = t p) : s = t := funext fun p => by
  by_cases hp : p < 10
  · exact h p hp
  · rw [hs.2.2 p (by omega), ht.2.2 p (by omega)]
section DIST
variable {n r : Nat} {tn : Nat → Nat → Nat} {st s : Nat → Nat} {k a : Nat}
theorem dG_0 (hz : zOK n r tn (fun p => p) st) : dG k r tn (fun p => p) = 0 := by
  have hG := zG_is hz
  refine dF_P (P := fun F => F (numG (zG r tn) (fun p => p) 10) = 0) (fun B hB => ?_)
  unfold zBF at hB
  exact bF_at0 hB (numG_lt hG hG.2.1 10 (Nat.le_refl _)) (dc_t.mpr fun p _ => by rw [stG_num hG hG.2.1])
theorem dF_nn (hz : zOK n r tn (fun p => p) st) (h8 : szG (zG r tn) 10 ≤ 800) {i : Nat} (hi : i < szG (zG r tn) 10) : 0 ≤ dF k r tn i := dF_P (P := fun F => 0 ≤ F i) (fun B hB => zBF_all hz h8 hB hi)
theorem dF_lt (hz : zOK n r tn (fun p => p) st) (h8 : szG (zG r tn) 10 ≤ 800) {i : Nat} (hi : i < szG (zG r tn) 10) : dF k r tn i < (szG (zG r tn) 10 : Int) := dF_P (P := fun F => F i < (szG (zG r tn) 10 : Int)) (fun B hB => (bI_rg (zB_I hz hB) hi).2)
theorem dG_nn (hz : zOK n r tn (fun p => p) st) (h8 : szG (zG r tn) 10 ≤ 800) (hs : zG r tn s) : 0 ≤ dG k r tn s := dF_nn hz h8 (numG_lt (zG_is hz) hs 10 (Nat.le_refl _))
theorem nxG_s (hz : zOK n r tn (fun p => p) st) (hs : zG r tn s) : nxG (zG r tn) tn a (numG (zG r tn) s 10) = numG (zG r tn) (fun p => s (tn a p)) 10 := by
  unfold nxG
  rw [stG_num (zG_is hz) hs]
theorem dG_lip (hz : zOK n r tn (fun p => p) st) (h8 : szG (zG r tn) 10 ≤ 800) (hs : zG r tn s) (ha : a < 2 * r) : dG k r tn (fun p => s (tn a p)) ≤ dG k r tn s + 1 := by
  refine dF_P (P := fun F => F (numG (zG r tn) (fun p => s (tn a p)) 10) ≤ F (numG (zG r tn) s 10) + 1) (fun B hB => ?_)
  have hs' := numG_lt (zG_is hz) hs 10 (Nat.le_refl _)
  have h0 := zBF_all hz h8 hB hs'
  unfold zBF at hB
  rw [← nxG_s hz hs]
  exact bF_lip (fun a s ha hs => nxG_lt hz ha hs) (tt_1 k) h8 hB hs' h0 ha
theorem dG_near (hz : zOK n r tn (fun p => p) st) (h8 : szG (zG r tn) 10 ≤ 800) (hs : zG r tn s) (hne : s ≠ fun p => p) : ∃ a, a < 2 * r ∧ dG 0 r tn (fun p => s (tn a p)) = dG 0 r tn s - 1 := by
  have hG := zG_is hz
  refine dF_P (P := fun F => ∃ a, a < 2 * r ∧ F (numG (zG r tn) (fun p => s (tn a p)) 10) = F (numG (zG r tn) s 10) - 1) (fun B hB => ?_)
  have hs' := numG_lt (zG_is hz) hs 10 (Nat.le_refl _)
  have h0 := zBF_all hz h8 hB hs'
  unfold zBF at hB
  obtain ⟨a, j, q1, q2, -, q4⟩ := bF_near hz hB hs' h0 (dc_f.mpr fun q => hne (pm_ext (hG.1 _ hs) (pm_id 10) fun p hp => by
    have := q p hp
    rw [stG_num hG hs] at this
    exact this))
  rw [tt_0] at q2
  obtain rfl : j = 0 := by omega
  refine ⟨a, q1, ?_⟩
  rw [← nxG_s hz hs]
  exact q4
end DIST
/-- distances: 0 where it is solved, a neighbour at most one further .. -/
def dst (r : Nat) (tn : Nat → Nat → Nat) (G : (Nat → Nat) → Prop) (D : (Nat → Nat) → Int) : Prop := D (fun p => p) = 0 ∧ (∀ s, G s → 0 ≤ D s) ∧ ∀ s a, G s → a < 2 * r → D (fun p => s (tn a p)) ≤ D s + 1
/-- .. and one neighbour nearer -/
def dnr (r : Nat) (tn : Nat → Nat → Nat) (G : (Nat → Nat) → Prop) (D : (Nat → Nat) → Int) : Prop := ∀ s, G s → (s ≠ fun p => p) → ∃ a, a < 2 * r ∧ D (fun p => s (tn a p)) = D s - 1
/-- turns, and back -/
def tnO (r : Nat) (tn : Nat → Nat → Nat) (G : (Nat → Nat) → Prop) : Prop := (∀ s a, G s → a < 2 * r → G (fun p => s (tn a p))) ∧ (∀ a, a < 2 * r → fl a < 2 * r ∧ ∀ p, tn a (tn (fl a) p) = p) ∧ (∀ s, G s → pm 10 s) ∧ G (fun p => p)
theorem dG_dst {n r k : Nat} {tn : Nat → Nat → Nat} {st : Nat → Nat} (hz : zOK n r tn (fun p => p) st) (h8 : szG (zG r tn) 10 ≤ 800) : dst r tn (zG r tn) (dG k r tn) := ⟨dG_0 hz, fun s hs => dG_nn hz h8 hs, fun s a hs ha => dG_lip hz h8 hs ha⟩
theorem dG_dnr {n r : Nat} {tn : Nat → Nat → Nat} {st : Nat → Nat} (hz : zOK n r tn (fun p => p) st) (h8 : szG (zG r tn) 10 ≤ 800) : dnr r tn (zG r tn) (dG 0 r tn) := fun s hs hne => dG_near hz h8 hs hne
theorem zG_tnO {n r : Nat} {tn : Nat → Nat → Nat} {col st : Nat → Nat} (hz : zOK n r tn col st) : tnO r tn (zG r tn) := ⟨fun s a hs ha => (zG_is hz).2.2.1 _ _ hs (zG_tn hz ha), fun a ha => tn_fl hz ha, (zG_is hz).1, (zG_is hz).2.1⟩
section DST
variable {r : Nat} {tn : Nat → Nat → Nat} {G : (Nat → Nat) → Prop} {D E : (Nat → Nat) → Int} {s : Nat → Nat} {a : Nat}
theorem dst_bk (hT : tnO r tn G) (h : dst r tn G D) (hs : G s) (ha : a < 2 * r) : D s ≤ D (fun p => s (tn a p)) + 1 := by
  obtain ⟨f1, f2⟩ := hT.2.1 a ha
  have l := h.2.2 (fun p => s (tn a p)) (fl a) (hT.1 s a hs ha) f1
  have e2 : (fun p => s (tn a (tn (fl a) p))) = s := funext fun p => congrArg s (f2 p)
  have l' : D (fun p => s (tn a (tn (fl a) p))) ≤ D (fun p => s (tn a p)) + 1 := l
  rw [e2] at l'
  exact l'
theorem dst_id (hT : tnO r tn G) (h : dst r tn G D) (k : dnr r tn G D) (hs : G s) (e : D s = 0) : s = fun p => p := Classical.byContradiction fun hne => by
  obtain ⟨a, q1, q2⟩ := k s hs hne
  have := h.2.1 _ (hT.1 s a hs q1)
  omega
theorem dst_word (hT : tnO r tn G) (h : dst r tn G D) : ∀ (w : List Nat) (s : Nat → Nat), G s → (∀ x, x ∈ w → x < 2 * r) → saf tn s w = (fun p => p) → D s ≤ (w.length : Int)
  | [], s, _, _, e => by
    have e : s = fun p => p := e
    rw [e, h.1]
    exact Int.le_refl 0
  | a :: w, s, hs, hw, e => by
    have ha := hw a List.mem_cons_self
    have ih := dst_word hT h w (fun p => s (tn a p)) (hT.1 s a hs ha) (fun x hx => hw x (List.mem_cons_of_mem _ hx)) e
    have l := dst_bk hT h hs ha
    have : ((a :: w).length : Int) = (w.length : Int) + 1 := by simp
    omega
theorem dst_way (hT : tnO r tn G) (h : dst r tn G D) (k : dnr r tn G D) : ∀ (m : Nat) (s : Nat → Nat), G s → D s = (m : Int) → ∃ w : List Nat, w.length = m ∧ (∀ x, x ∈ w → x < 2 * r) ∧ saf tn s w = fun p => p
  | 0, s, hs, e => by
    have h0 : D s = 0 := by omega
    exact ⟨[], rfl, fun x hx => (by cases hx), dst_id hT h k hs h0⟩
  | m + 1, s, hs, e => by
    have hne : s ≠ fun p => p := fun q => by
      rw [q, h.1] at e
      omega
    obtain ⟨a, q1, q2⟩ := k s hs hne
    obtain ⟨w, w1, w2, w3⟩ := dst_way hT h k m (fun p => s (tn a p)) (hT.1 s a hs q1) (by omega)
    refine ⟨a :: w, by rw [List.length_cons, w1], fun x hx => ?_, w3⟩
    rcases List.mem_cons.mp hx with e | e
    · rw [e]
      exact q1
    · exact w2 x e
/-- the least distances are those -/
theorem dst_le (hT : tnO r tn G) (h : dst r tn G D) (h' : dst r tn G E) (k : dnr r tn G D) (hs : G s) : E s ≤ D s := by
  have h0 := h.2.1 s hs
  obtain ⟨w, w1, w2, w3⟩ := dst_way hT h k (D s).toNat s hs (by omega)
  have := dst_word hT h' w s hs w2 w3
  rw [w1] at this
  omega
end DST
/-! .. and ways that are searched. -/
theorem fsm_no {g : Nat → Option (List Nat)} : ∀ {k a : Nat}, fsm g k a = none → ∀ b, a ≤ b → b < a + k → g b = none
  | 0, a, _, b, h1, h2 => absurd h2 (by omega)
  | k + 1, a, h, b, h1, h2 => by
    have h : (match g a with | some w => some (a :: w) | none => fsm g k (a + 1)) = none := h
    split at h
    · cases h
    · rename_i e
      by_cases q : b = a
      · rw [q]
        exact e
      · exact fsm_no h b (by omega) (by omega)
theorem srch_no {tn : Nat → Nat → Nat} {col : Nat → Nat} {m : Nat} : ∀ {n : Nat} {f : Nat → Nat}, srch tn col m n f = none → ∀ w : List Nat, w.length = n → (∀ x, x ∈ w → x < m) → ¬ ∀ p, p < 10 → saf tn f w p = col p
  | 0, f, h, w, hw, _, q => by
    have hw' : w = [] := List.length_eq_zero_iff.mp hw
    subst hw'
    have h : (if dc (∀ p, p < 10 → f p = col p) then some [] else none) = (none : Option (List Nat)) := h
    have q' : ∀ p, p < 10 → f p = col p := q
    rw [if_pos (dc_t.mpr q')] at h
    cases h
  | n + 1, f, h, w, hw, hx, q => by
    cases w with
    | nil => cases hw
    | cons a w =>
      have h : fsm (fun a => srch tn col m n (fun p => f (tn a p))) m 0 = none := h
      exact srch_no (fsm_no h a (Nat.zero_le a) (by have := hx a List.mem_cons_self; omega)) w (by simpa using hw) (fun x hx' => hx x (List.mem_cons_of_mem _ hx')) q
theorem skF_is {g : Nat → Option (List Nat)} {D : Nat} {w : List Nat} (hD : g D = some w) : ∀ k n, (∀ i, n ≤ i → i < D → g i = none) → n ≤ D → D < n + k → skF g k n = some (D, w)
  | 0, n, _, h1, h2 => absurd h2 (by omega)
  | k + 1, n, h, h1, h2 => by
    show (match g n with | some w => some (n, w) | none => skF g k (n + 1)) = some (D, w)
    by_cases e : n = D
    · subst e
      rw [hD]
    · rw [h n (Nat.le_refl n) (by omega)]
      exact skF_is hD k (n + 1) (fun i q1 q2 => h i (by omega) q2) (by omega) (by omega)
theorem skF_no {g : Nat → Option (List Nat)} : ∀ k n, (∀ i, n ≤ i → i < n + k → g i = none) → skF g k n = none
  | 0, n, _ => rfl
  | k + 1, n, h => by
    show (match g n with | some w => some (n, w) | none => skF g k (n + 1)) = none
    rw [h n (Nat.le_refl n) (by omega)]
    exact skF_no k (n + 1) (fun i q1 q2 => h i (by omega) (by omega))
section SEA
variable {r : Nat} {tn : Nat → Nat → Nat} {G : (Nat → Nat) → Prop} {D : (Nat → Nat) → Int} {s : Nat → Nat}
theorem saf_G (hT : tnO r tn G) : ∀ (w : List Nat) (s : Nat → Nat), G s → (∀ x, x ∈ w → x < 2 * r) → G (saf tn s w)
  | [], s, hs, _ => hs
  | a :: w, s, hs, hw => saf_G hT w (fun p => s (tn a p)) (hT.1 s a hs (hw a List.mem_cons_self)) (fun x hx => hw x (List.mem_cons_of_mem _ hx))
theorem srch_id (hT : tnO r tn G) {m : Nat} {v : List Nat} (hs : G s) (h : srch tn (fun p => p) (2 * r) m s = some v) : v.length = m ∧ (∀ x, x ∈ v → x < 2 * r) ∧ saf tn s v = fun p => p := by
  obtain ⟨h1, h2, h3⟩ := srch_some h
  exact ⟨h1, h2, pm_ext (hT.2.2.1 _ (saf_G hT v s hs h2)) (pm_id 10) h3⟩
/-- what a search finds: least, or nothing -/
theorem sea_is (hT : tnO r tn G) (h : dst r tn G D) (k : dnr r tn G D) (hs : G s) {e : Nat} (hD : D s = (e : Int)) (m : Nat) :
    (e ≤ m → ∃ v, skF (fun i => srch tn (fun p => p) (2 * r) i s) (m + 1) 0 = some (e, v) ∧ v.length = e ∧ (∀ x, x ∈ v → x < 2 * r) ∧ saf tn s v = fun p => p) ∧ (m < e → skF (fun i => srch tn (fun p => p) (2 * r) i s) (m + 1) 0 = none) := by
  have low : ∀ i, i < e → srch tn (fun p => p) (2 * r) i s = none := fun i hi => by
    cases q : srch tn (fun p => p) (2 * r) i s with
    | none => rfl
    | some v =>
      obtain ⟨h1, h2, h3⟩ := srch_id hT hs q
      have := dst_word hT h v s hs h2 h3
      omega
  refine ⟨fun hm => ?_, fun hm => skF_no _ _ fun i _ hi => low i (by omega)⟩
  cases q : srch tn (fun p => p) (2 * r) e s with
  | none =>
    obtain ⟨w, w1, w2, w3⟩ := dst_way hT h k e s hs hD
    exact absurd (fun p _ => by rw [w3]) (srch_no q w w1 w2)
  | some v =>
    exact ⟨v, skF_is q _ _ (fun i _ q => low i q) (Nat.zero_le _) (by omega), srch_id hT hs q⟩
/-- the first turn of a least way leads nearer -/
theorem way_1 (hT : tnO r tn G) (h : dst r tn G D) (hs : G s) {e a : Nat} {v : List Nat} (hD : D s = ((e + 1 : Nat) : Int)) (hv : v.length = e) (hx : ∀ x, x ∈ a :: v → x < 2 * r) (q : saf tn s (a :: v) = fun p => p) : a < 2 * r ∧ G (fun p => s (tn a p)) ∧ D (fun p => s (tn a p)) = (e : Int) := by
  have ha := hx a List.mem_cons_self
  have hs' := hT.1 s a hs ha
  have h1 := dst_word hT h v (fun p => s (tn a p)) hs' (fun x q => hx x (List.mem_cons_of_mem _ q)) q
  have l := dst_bk hT h hs ha
  exact ⟨ha, hs', by omega⟩
end SEA
