/-! The model's kinds of pieces. -/
/-- two states look alike -/
def lkA (col : Nat → Nat) (f g : Nat → Nat) : Prop := ∀ p, p < 10 → col (f p) = col (g p)
theorem ct_or {a b : Nat → Bool} : ∀ {n : Nat}, (∀ k, k < n → a k = true → b k = false) → ct (fun k => a k || b k) n = ct a n + ct b n
  | 0, _ => rfl
  | n + 1, h => by
    have h1 := ct_or (a := a) (b := b) (n := n) (fun k hk => h k (by omega))
    have h2 := h n (by omega)
    show ct (fun k => a k || b k) n + (if (a n || b n) then 1 else 0) = (ct a n + (if a n then 1 else 0)) + (ct b n + (if b n then 1 else 0))
    rw [h1]
    cases ha : a n with
    | true =>
      rw [h2 ha]
      simp
      omega
    | false =>
      cases b n <;> simp <;> omega
/-- the classes of states that look alike: by their first -/
theorem kinds_ct {G : (Nat → Nat) → Prop} (hG : isG G) {col : Nat → Nat} {Z : Nat} (hZ : szG G 10 = Z) : ∀ m, m ≤ Z → ct (fun t => dc (∃ s, s < m ∧ lkA col (stG G t) (stG G s))) Z = ct (fun s => dc (¬ ∃ s', s' < s ∧ lkA col (stG G s) (stG G s'))) m * ct (fun i => dc (∀ p, p < 10 → col (stG G i p) = col p)) Z
  | 0, _ => by
    rw [show ct (fun s => dc (¬ ∃ s', s' < s ∧ lkA col (stG G s) (stG G s'))) 0 = 0 from rfl, Nat.zero_mul]
    exact ct_z (fun t _ => dc_f.mpr (fun ⟨s, q, _⟩ => absurd q (Nat.not_lt_zero s)))
  | m + 1, hm => by
    have ih := kinds_ct hG (col := col) hZ m (by omega)
    obtain ⟨s1, s2⟩ := stG_sp hG (show m < szG G 10 by omega)
    have hpm := hG.1 _ s1
    -- the class of one has as many as are solved
    have cls : ct (fun t => dc (lkA col (stG G t) (stG G m))) Z = ct (fun i => dc (∀ p, p < 10 → col (stG G i p) = col p)) Z := by
      have hph : ∀ t, t < Z → G (fun p => stG G t (stG G m p)) := fun t ht => hG.2.2.1 _ _ (stG_sp hG (by omega)).1 s1
      have h1 := ct_perm (b := fun t => dc (lkA col (stG G t) (stG G m))) Z (fun t => numG G (fun p => stG G t (stG G m p)) 10) (fun t ht => by have := numG_lt hG (hph t ht) 10 (Nat.le_refl _); omega) (fun t u ht hu e => by
        have e2 := numG_inj hG (hph t ht) (hph u hu) e
        have e3 : stG G t = stG G u := funext fun q => by
          have := congrFun e2 (vi 10 (stG G m) q)
          have this : stG G t (stG G m (vi 10 (stG G m) q)) = stG G u (stG G m (vi 10 (stG G m) q)) := this
          rw [vi_r hpm] at this
          exact this
        have e4 := (stG_sp hG (show t < szG G 10 by omega)).2
        have e5 := (stG_sp hG (show u < szG G 10 by omega)).2
        rw [e3] at e4
        omega)
      rw [← h1]
      refine ct_cg fun t ht => dc_cg ?_
      rw [stG_num hG (hph t ht)]
      unfold lkA
      constructor
      · intro h p hp
        have := h (vi 10 (stG G m) p) ((vi_pm hpm).1 p hp)
        have this : col (stG G t (stG G m (vi 10 (stG G m) p))) = col (stG G m (vi 10 (stG G m) p)) := this
        rw [vi_r hpm] at this
        exact this
      · intro h p hp
        exact h _ (hpm.1 p hp)
    by_cases c : ∃ s', s' < m ∧ lkA col (stG G m) (stG G s')
    · have e1 : ct (fun s => dc (¬ ∃ s', s' < s ∧ lkA col (stG G s) (stG G s'))) (m + 1) = ct (fun s => dc (¬ ∃ s', s' < s ∧ lkA col (stG G s) (stG G s'))) m := by
        show ct _ m + (if dc (¬ ∃ s', s' < m ∧ lkA col (stG G m) (stG G s')) then 1 else 0) = _
        rw [dc_f.mpr (fun n => n c)]
        rfl
      rw [e1, ← ih]
      refine ct_cg fun t _ => dc_cg ⟨fun ⟨s, q1, q2⟩ => ?_, fun ⟨s, q1, q2⟩ => ⟨s, by omega, q2⟩⟩
      by_cases q : s = m
      · obtain ⟨s', u1, u2⟩ := c
        rw [q] at q2
        exact ⟨s', u1, fun p hp => (q2 p hp).trans (u2 p hp)⟩
      · exact ⟨s, by omega, q2⟩
    · have e1 : ct (fun s => dc (¬ ∃ s', s' < s ∧ lkA col (stG G s) (stG G s'))) (m + 1) = ct (fun s => dc (¬ ∃ s', s' < s ∧ lkA col (stG G s) (stG G s'))) m + 1 := by
        show ct _ m + (if dc (¬ ∃ s', s' < m ∧ lkA col (stG G m) (stG G s')) then 1 else 0) = _
        rw [dc_t.mpr c]
        rfl
      rw [e1, Nat.succ_mul, ← ih, ← cls, ← ct_or]
      · refine ct_cg fun t _ => bl_iff ?_
        rw [dc_t, Bool.or_eq_true, dc_t, dc_t]
        constructor
        · rintro ⟨s, q1, q2⟩
          by_cases q : s = m
          · exact Or.inr (by rw [q] at q2; exact q2)
          · exact Or.inl ⟨s, by omega, q2⟩
        · rintro (⟨s, q1, q2⟩ | q2)
          · exact ⟨s, by omega, q2⟩
          · exact ⟨m, by omega, q2⟩
      · intro t _ h1
        refine dc_f.mpr (fun h2 => c ?_)
        obtain ⟨s, q1, q2⟩ := dc_t.mp h1
        exact ⟨s, q1, fun p hp => (h2 p hp).symm.trans (q2 p hp)⟩
theorem kinds_eq {G : (Nat → Nat) → Prop} (hG : isG G) {col : Nat → Nat} {Z : Nat} (hZ : szG G 10 = Z) : Z / ct (fun i => dc (∀ p, p < 10 → col (stG G i p) = col p)) Z = ct (fun s => dc (¬ ∃ s', s' < s ∧ lkA col (stG G s) (stG G s'))) Z := by
  have h := kinds_ct hG (col := col) hZ Z (Nat.le_refl _)
  have h1 : ct (fun t => dc (∃ s, s < Z ∧ lkA col (stG G t) (stG G s))) Z = Z := ct_full (fun t ht => dc_t.mpr ⟨t, ht, fun _ _ => rfl⟩)
  rw [h1] at h
  have hpos : 1 ≤ ct (fun i => dc (∀ p, p < 10 → col (stG G i p) = col p)) Z := by
    have hn := numG_lt hG hG.2.1 10 (Nat.le_refl _)
    refine ct_pos (i := numG G (fun p => p) 10) (by omega) (dc_t.mpr (fun p _ => ?_))
    rw [stG_num hG hG.2.1]
  generalize ct (fun i => dc (∀ p, p < 10 → col (stG G i p) = col p)) Z = c at h hpos
  generalize ct (fun s => dc (¬ ∃ s', s' < s ∧ lkA col (stG G s) (stG G s'))) Z = k at h
  rw [h]
  exact Nat.mul_div_cancel _ hpos
