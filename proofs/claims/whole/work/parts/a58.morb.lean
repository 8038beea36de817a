/-! Orbits by least labels. -/
/-- labels after k rounds -/
def lbJ (G : (Nat → Nat) → Prop) (l : Nat → Nat) : Prop := ∀ p, p < 10 → l p ≤ p ∧ orbR G p (l p)
def lbP (G : (Nat → Nat) → Prop) (k : Nat) (l : Nat → Nat) : Prop := ∀ m, m < 10 → (∀ j, orbR G m j → m ≤ j) → (∀ p, p < 10 → orbR G m p → l p = m) ∨ k + 1 ≤ ct (fun p => decide (l p = m)) 10
theorem lbP_0 (G : (Nat → Nat) → Prop) : lbP G 0 (fun p => p) := fun m hm _ => Or.inr (ct_pos hm (decide_eq_true rfl))
theorem lbP_s {n r : Nat} {tn : Nat → Nat → Nat} {col st : Nat → Nat} (hz : zOK n r tn col st) {k : Nat} {l l' : Nat → Nat} (h : lbP (zG r tn) k l) (j1 : lbJ (zG r tn) l) (j2 : lbJ (zG r tn) l') (h1 : ∀ p, p < 10 → l' p ≤ l p) (h2 : ∀ a p, a < 2 * r → p < 10 → l' p ≤ l (tn a p)) : lbP (zG r tn) (k + 1) l' := fun m hm hle => by
  have hG := zG_is hz
  -- who has the least keeps it
  have key : ∀ p, p < 10 → orbR (zG r tn) m p → l' p ≤ m → l' p = m := fun p hp ho hlt => by
    have := hle _ (orbR_tr hG ho (j2 p hp).2)
    omega
  have inO : ∀ p, p < 10 → l p = m → orbR (zG r tn) m p := fun p hp e => by
    have := (j1 p hp).2
    rw [e] at this
    exact orbR_sy hG this
  rcases h m hm hle with c | c
  · exact Or.inl (fun p hp ho => key p hp ho (by have := h1 p hp; have := c p hp ho; omega))
  · rcases Classical.em (∀ p, p < 10 → orbR (zG r tn) m p → l p = m) with g | g
    · exact Or.inl (fun p hp ho => key p hp ho (by have := h1 p hp; have := g p hp ho; omega))
    · refine Or.inr ?_
      have lm : l m = m := by
        have h3 := (j1 m hm).1
        have h4 := hle _ (j1 m hm).2
        omega
      have nc : ¬ clF r tn (fun p => decide (l p = m)) := fun hc => g (fun p _ ho => of_decide_eq_true (clF_orb hz hm (decide_eq_true lm) hc ho))
      obtain ⟨q, hq, hA, i, hi, hB⟩ : ∃ q, q < 10 ∧ l q = m ∧ ∃ i, i < r ∧ ¬ l (tn (2 * i) q) = m := by
        apply Classical.byContradiction
        intro n
        refine nc (fun q hq hA i hi => decide_eq_true ?_)
        apply Classical.byContradiction
        intro e
        exact n ⟨q, hq, of_decide_eq_true hA, i, hi, e⟩
      have hp10 := ztn_pm hz (show 2 * i < 2 * r by omega)
      have l1 := hp10.1 q hq
      have back : tn (2 * i + 1) (tn (2 * i) q) = q := by
        rw [hz.2.2.2.2.1 i hi]
        exact vi_l hp10 q
      have h5 := h2 (2 * i + 1) (tn (2 * i) q) (by omega) l1
      rw [back, hA] at h5
      have h6 : l' (tn (2 * i) q) = m := key _ l1 (orbR_tr hG (inO q hq hA) ⟨tn (2 * i), zG_tn hz (by omega), rfl⟩) h5
      have := ct_lt (a := fun p => decide (l p = m)) (b := fun p => decide (l' p = m)) (i := tn (2 * i) q) (n := 10) (fun p hp e => decide_eq_true (by
        have e := of_decide_eq_true e
        exact key p hp (inO p hp e) (by have := h1 p hp; omega))) l1 (decide_eq_false hB) (decide_eq_true h6)
      omega
theorem lb_end {G : (Nat → Nat) → Prop} (hG : isG G) {l : Nat → Nat} (h : lbP G 10 l) (j : lbJ G l) {n : Nat} (hn : n ≤ 10) (hN : ∀ g, G g → pm n g) {k : Nat} (hk : k < n) : 2 ≤ ct (fun p => decide (l p = k)) n ↔ orbL G k := by
  have all : ∀ m, m < 10 → (∀ j, orbR G m j → m ≤ j) → ∀ p, p < 10 → orbR G m p → l p = m := fun m hm hle => by
    rcases h m hm hle with c | c
    · exact c
    · have := ct_le (fun p => decide (l p = m)) 10
      omega
  -- the least of one's orbit
  have least : ∀ p, p < 10 → ∃ m, m < 10 ∧ (∀ j, orbR G m j → m ≤ j) ∧ orbR G m p := fun p hp => by
    have ex : ∀ s q, q < 10 → q ≤ s → orbR G q p → ∃ m, m < 10 ∧ (∀ j, orbR G m j → m ≤ j) ∧ orbR G m p := fun s => by
      induction s with
      | zero =>
        intro q hq hs ho
        exact ⟨q, hq, fun j _ => by omega, ho⟩
      | succ s ih =>
        intro q hq hs ho
        rcases Classical.em (∀ j, orbR G q j → q ≤ j) with c | c
        · exact ⟨q, hq, c, ho⟩
        · obtain ⟨j, hj⟩ := Classical.not_forall.mp c
          obtain ⟨hj1, hj2⟩ := Classical.not_imp.mp hj
          exact ih j (orbR_lt hG hq hj1) (by omega) (orbR_tr hG (orbR_sy hG hj1) ho)
    exact ex p p hp (Nat.le_refl _) (orbR_rf hG p)
  have val : ∀ p, p < 10 → l p = k → (∀ j, orbR G k j → k ≤ j) ∧ orbR G k p := fun p hp e => by
    obtain ⟨m, m1, m2, m3⟩ := least p hp
    have := all m m1 m2 p hp m3
    have : m = k := by omega
    subst this
    exact ⟨m2, m3⟩
  constructor
  · intro h2
    obtain ⟨p, hp, hA⟩ : ∃ p, p < n ∧ l p = k := by
      apply Classical.byContradiction
      intro c
      rw [ct_z (fun p hp => decide_eq_false (fun e => c ⟨p, hp, e⟩))] at h2
      omega
    obtain ⟨k1, k2⟩ := val p (by omega) hA
    have hkk : l k = k := all k (by omega) k1 k (by omega) (orbR_rf hG k)
    obtain ⟨j, j1, j2, j3⟩ := (ct_two (A := fun p => decide (l p = k)) hk (decide_eq_true hkk)).mp h2
    exact ⟨k1, j, j2, (val j (by omega) (of_decide_eq_true j3)).2⟩
  · rintro ⟨k1, j, j2, j3⟩
    have hkk : l k = k := all k (by omega) k1 k (by omega) (orbR_rf hG k)
    have hjn : j < n := by
      obtain ⟨g, g1, g2⟩ := j3
      rw [← g2]
      exact (hN g g1).1 k hk
    exact (ct_two (A := fun p => decide (l p = k)) hk (decide_eq_true hkk)).mpr ⟨j, hjn, j2, decide_eq_true (all k (by omega) k1 j (by omega) j3)⟩
