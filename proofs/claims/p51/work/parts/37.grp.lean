/-! Groups of rearrangements: what turns make; iterates come back; counts over rearrangements. -/
noncomputable def dc (p : Prop) : Bool := @decide p (Classical.propDecidable p)
theorem dc_t {p : Prop} : dc p = true ↔ p := @decide_eq_true_iff p (Classical.propDecidable p)
theorem dc_f {p : Prop} : dc p = false ↔ ¬ p := @decide_eq_false_iff_not p (Classical.propDecidable p)
theorem dc_cg {p q : Prop} (h : p ↔ q) : dc p = dc q := by rw [propext h]
theorem bl_iff {a b : Bool} (h : a = true ↔ b = true) : a = b := by cases a <;> cases b <;> simp_all
theorem ct_mono {a b : Nat → Bool} : ∀ {n : Nat}, (∀ k, k < n → a k = true → b k = true) → ct a n ≤ ct b n
  | 0, _ => Nat.le_refl _
  | n + 1, h => by
    have h1 := ct_mono (n := n) (fun k hk => h k (by omega))
    have h2 := h n (by omega)
    show ct a n + (if a n then 1 else 0) ≤ ct b n + (if b n then 1 else 0)
    cases ha : a n with
    | false => simp only [Bool.false_eq_true, if_false]; omega
    | true => rw [h2 ha]; simp only [if_true]; omega
theorem ct_lt {a b : Nat → Bool} {i : Nat} : ∀ {n : Nat}, (∀ k, k < n → a k = true → b k = true) → i < n → a i = false → b i = true → ct a n < ct b n
  | 0, _, hi, _, _ => absurd hi (Nat.not_lt_zero i)
  | n + 1, h, hi, h1, h2 => by
    have h3 := h n (by omega)
    show ct a n + (if a n then 1 else 0) < ct b n + (if b n then 1 else 0)
    by_cases e : i = n
    · subst e
      have := ct_mono (n := i) (fun k hk => h k (by omega))
      rw [h1, h2]
      simp only [Bool.false_eq_true, if_false, if_true]
      omega
    · have := ct_lt (n := n) (fun k hk => h k (by omega)) (by omega) h1 h2
      cases ha : a n with
      | false => simp only [Bool.false_eq_true, if_false]; omega
      | true => rw [h3 ha]; simp only [if_true]; omega
theorem ct_set {a b : Nat → Bool} {i : Nat} : ∀ {n : Nat}, i < n → a i = false → b i = true → (∀ k, k < n → k ≠ i → b k = a k) → ct b n = ct a n + 1
  | 0, hi, _, _, _ => absurd hi (Nat.not_lt_zero i)
  | n + 1, hi, h1, h2, h => by
    show ct b n + (if b n then 1 else 0) = ct a n + (if a n then 1 else 0) + 1
    by_cases e : i = n
    · subst e
      rw [ct_cg (n := i) (fun k hk => h k (by omega) (by omega)), h1, h2]
      rfl
    · rw [ct_set (n := n) (by omega) h1 h2 (fun k hk => h k (by omega)), h n (by omega) (fun q => e q.symm)]
      omega
theorem ct_z {b : Nat → Bool} : ∀ {n : Nat}, (∀ k, k < n → b k = false) → ct b n = 0
  | 0, _ => rfl
  | n + 1, h => by
    show ct b n + (if b n then 1 else 0) = 0
    rw [ct_z (fun k hk => h k (by omega)), h n (by omega)]
    rfl
theorem ct_pos {b : Nat → Bool} {n i : Nat} (hi : i < n) (h : b i = true) : 1 ≤ ct b n := by
  have := ct_lt (a := fun _ => false) (b := b) (i := i) (n := n) (fun k _ q => by cases q) hi rfl h
  omega
/-- a count doesn't mind a rearrangement -/
theorem ct_perm {b : Nat → Bool} : ∀ (n : Nat) (s : Nat → Nat), (∀ p, p < n → s p < n) → (∀ p q, p < n → q < n → s p = s q → p = q) → ct (fun j => b (s j)) n = ct b n
  | 0, _, _, _ => rfl
  | n + 1, s, h1, h2 => by
    have hm := h1 n (by omega)
    have ih := ct_perm (b := b) n (fun p => if s p = n then s n else s p) (fun p hp => by
        have a := h1 p (by omega)
        show (if s p = n then s n else s p) < n
        split
        · rename_i c
          have b : s n ≠ n := fun c2 => by
            have := h2 p n (by omega) (by omega) (c.trans c2.symm)
            omega
          omega
        · omega) (fun p r hp hr h => by
        have h' : (if s p = n then s n else s p) = (if s r = n then s n else s r) := h
        split at h' <;> split at h'
        · rename_i c1 c2
          exact h2 p r (by omega) (by omega) (c1.trans c2.symm)
        · have := h2 n r (by omega) (by omega) h'
          omega
        · have := h2 p n (by omega) (by omega) h'
          omega
        · exact h2 p r (by omega) (by omega) h')
    show ct (fun j => b (s j)) n + (if b (s n) then 1 else 0) = ct b n + (if b n then 1 else 0)
    by_cases e : s n = n
    · rw [e, ← ih]
      congr 1
      refine ct_cg fun k hk => ?_
      have : s k ≠ n := fun c => by
        have := h2 k n (by omega) (by omega) (c.trans e.symm)
        omega
      show b (s k) = b (if s k = n then s n else s k)
      rw [if_neg this]
    · obtain ⟨q, hq, hqe⟩ := pm_sur0 (n + 1) s h1 h2 n (by omega)
      have hqn : q < n := by
        have : q ≠ n := fun c => e (by rw [c] at hqe; exact hqe)
        omega
      rw [← ih]
      have hne : ∀ k, k < n → k ≠ q → (if s k = n then s n else s k) = s k := fun k hk hkq => if_neg fun c => hkq (h2 k q (by omega) (by omega) (c.trans hqe.symm))
      cases h3 : b (s n) <;> cases h4 : b n
      · congr 1
        refine ct_cg fun k hk => ?_
        show b (s k) = b (if s k = n then s n else s k)
        by_cases c : k = q
        · subst c
          rw [hqe, if_pos rfl, h3, h4]
        · rw [hne k hk c]
      · have := ct_set (a := fun j => b (if s j = n then s n else s j)) (b := fun j => b (s j)) (i := q) (n := n) hqn (by show b (if s q = n then s n else s q) = false; rw [if_pos hqe, h3]) (by show b (s q) = true; rw [hqe, h4]) (fun k hk hkq => by show b (s k) = b (if s k = n then s n else s k); rw [hne k hk hkq])
        rw [this]
        rfl
      · have := ct_set (a := fun j => b (s j)) (b := fun j => b (if s j = n then s n else s j)) (i := q) (n := n) hqn (by show b (s q) = false; rw [hqe, h4]) (by show b (if s q = n then s n else s q) = true; rw [if_pos hqe, h3]) (fun k hk hkq => by show b (if s k = n then s n else s k) = b (s k); rw [hne k hk hkq])
        rw [this]
        rfl
      · congr 1
        refine ct_cg fun k hk => ?_
        show b (s k) = b (if s k = n then s n else s k)
        by_cases c : k = q
        · subst c
          rw [hqe, if_pos rfl, h3, h4]
        · rw [hne k hk c]
/-- pigeons: n + 1 numbers below n, two alike -/
theorem pig : ∀ (n : Nat) (a : Nat → Nat), (∀ i, i ≤ n → a i < n) → ∃ i j, i < j ∧ j ≤ n ∧ a i = a j
  | 0, a, h => absurd (h 0 (Nat.le_refl _)) (Nat.not_lt_zero _)
  | n + 1, a, h => by
    by_cases c : ∃ i, i < n + 1 ∧ a i = a (n + 1)
    · obtain ⟨i, hi, e⟩ := c
      exact ⟨i, n + 1, hi, Nat.le_refl _, e⟩
    · obtain ⟨i, j, h1, h2, h3⟩ := pig n (fun i => if a i = n then a (n + 1) else a i) (fun i hi => by
        have h1 := h i (by omega)
        have h2 := h (n + 1) (Nat.le_refl _)
        show (if a i = n then a (n + 1) else a i) < n
        split
        · rename_i e
          have : a (n + 1) ≠ n := fun q => c ⟨i, by omega, e.trans q.symm⟩
          omega
        · omega)
      have h3' : (if a i = n then a (n + 1) else a i) = (if a j = n then a (n + 1) else a j) := h3
      refine ⟨i, j, h1, by omega, ?_⟩
      split at h3' <;> split at h3'
      · rename_i e1 e2
        rw [e1, e2]
      · exact absurd ⟨j, by omega, h3'.symm⟩ c
      · exact absurd ⟨i, by omega, h3'⟩ c
      · exact h3'
theorem itf_cyc {n : Nat} {f : Nat → Nat} (hf : pm n f) {p : Nat} (hp : p < n) : ∃ c, 1 ≤ c ∧ c ≤ n ∧ itf f c p = p := by
  obtain ⟨i, j, h1, h2, h3⟩ := pig n (fun k => itf f k p) (fun k _ => (itf_pm hf k).1 p hp)
  have h3' : itf f i p = itf f j p := h3
  refine ⟨j - i, by omega, by omega, ?_⟩
  have e : j = i + (j - i) := by omega
  rw [e, itf_add] at h3'
  exact (pm_inj (itf_pm hf i) h3').symm
theorem itf_mul {f : Nat → Nat} {c p : Nat} (h : itf f c p = p) : ∀ k, itf f (c * k) p = p
  | 0 => rfl
  | k + 1 => by
    rw [Nat.mul_succ, itf_add, h]
    exact itf_mul h k
theorem itf_2520 {f : Nat → Nat} (hf : pm 10 f) : itf f 2520 = fun p => p := by
  funext p
  by_cases hp : p < 10
  · obtain ⟨c, h1, h2, h3⟩ := itf_cyc hf hp
    have : 2520 = c * (2520 / c) := by
      rcases (show c = 1 ∨ c = 2 ∨ c = 3 ∨ c = 4 ∨ c = 5 ∨ c = 6 ∨ c = 7 ∨ c = 8 ∨ c = 9 ∨ c = 10 by omega) with rfl | rfl | rfl | rfl | rfl | rfl | rfl | rfl | rfl | rfl <;> decide
    rw [this]
    exact itf_mul h3 _
  · exact (itf_pm hf 2520).2.2 p (by omega)
/-- what is made of some, one behind another -/
def Gm (A : (Nat → Nat) → Prop) (f : Nat → Nat) : Prop := ∀ S : (Nat → Nat) → Prop, S (fun p => p) → (∀ g, A g → S g) → (∀ f g, S f → S g → S (fun p => f (g p))) → S f
theorem Gm_id (A : (Nat → Nat) → Prop) : Gm A (fun p => p) := fun _ h _ _ => h
theorem Gm_of {A : (Nat → Nat) → Prop} {g : Nat → Nat} (h : A g) : Gm A g := fun _ _ k _ => k g h
theorem Gm_mul {A : (Nat → Nat) → Prop} {f g : Nat → Nat} (hf : Gm A f) (hg : Gm A g) : Gm A (fun p => f (g p)) := fun S a b c => c f g (hf S a b c) (hg S a b c)
theorem Gm_pm {n : Nat} {A : (Nat → Nat) → Prop} (hA : ∀ g, A g → pm n g) {f : Nat → Nat} (h : Gm A f) : pm n f := h (pm n) (pm_id n) hA fun _ _ => pm_comp
theorem Gm_it {A : (Nat → Nat) → Prop} {f : Nat → Nat} (h : Gm A f) : ∀ k, Gm A (itf f k)
  | 0 => Gm_id A
  | k + 1 => show Gm A (fun p => itf f k (f p)) from Gm_mul (Gm_it h k) h
theorem Gm_vi {A : (Nat → Nat) → Prop} (hA : ∀ g, A g → pm 10 g) {f : Nat → Nat} (h : Gm A f) : Gm A (vi 10 f) := by
  have hf := Gm_pm hA h
  have e : vi 10 f = itf f 2519 := by
    funext q
    refine pm_inj hf ?_
    rw [vi_r hf]
    exact (congrFun (itf_2520 hf) q).symm.trans (itf_s f 2519 q)
  rw [e]
  exact Gm_it h _
theorem Gm_sub {A B : (Nat → Nat) → Prop} (h : ∀ g, A g → Gm B g) {f : Nat → Nat} (k : Gm A f) : Gm B f := k (Gm B) (Gm_id B) h fun _ _ => Gm_mul
theorem vi_comp {f g : Nat → Nat} (hf : pm 10 f) (hg : pm 10 g) : vi 10 (fun p => f (g p)) = fun p => vi 10 g (vi 10 f p) := by
  funext q
  refine pm_inj (pm_comp hf hg) ?_
  show f (g (vi 10 (fun p => f (g p)) q)) = f (g (vi 10 g (vi 10 f q)))
  rw [vi_r hg, vi_r hf]
  exact vi_r (pm_comp hf hg) q
theorem vi_id : vi 10 (fun p => p) = fun p => p := funext fun q => vi_r (pm_id 10) q
