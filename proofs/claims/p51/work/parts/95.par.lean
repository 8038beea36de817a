/-! Odd and even: pairs in the wrong order, and cycles. -/
def xb (g : Nat → Bool) : Nat → Bool
  | 0 => false
  | n + 1 => xb g n ^^ g n
theorem xb_cg {g h : Nat → Bool} : ∀ {n : Nat}, (∀ k, k < n → g k = h k) → xb g n = xb h n
  | 0, _ => rfl
  | n + 1, e => by
    show (xb g n ^^ g n) = (xb h n ^^ h n)
    rw [xb_cg (fun k hk => e k (by omega)), e n (by omega)]
theorem xb_f {g : Nat → Bool} : ∀ {n : Nat}, (∀ k, k < n → g k = false) → xb g n = false
  | 0, _ => rfl
  | n + 1, e => by
    show (xb g n ^^ g n) = false
    rw [xb_f (fun k hk => e k (by omega)), e n (by omega)]
    rfl
/-- pairs in the wrong order, odd or even -/
def ip (f : Nat → Nat) (n : Nat) : Bool := xb (fun a => xb (fun b => decide (f a < f b)) a) n
def sw (f : Nat → Nat) (i j p : Nat) : Nat := if p = i then f j else if p = j then f i else f p
theorem sw_xb {g : Nat → Bool} {i n : Nat} {h : Nat → Bool} (h1 : h i = g (i + 1)) (h2 : h (i + 1) = g i) (h3 : ∀ k, k ≠ i → k ≠ i + 1 → h k = g k) : ∀ m, i + 2 + m = n → xb h n = xb g n := by
  intro m
  induction m generalizing n with
  | zero =>
    intro e
    subst e
    show ((xb h i ^^ h i) ^^ h (i + 1)) = ((xb g i ^^ g i) ^^ g (i + 1))
    rw [h1, h2, xb_cg (fun k hk => h3 k (by omega) (by omega)), Bool.xor_assoc, Bool.xor_assoc, Bool.xor_comm (g (i + 1))]
  | succ m ih =>
    intro e
    subst e
    show (xb h (i + 2 + m) ^^ h (i + 2 + m)) = (xb g (i + 2 + m) ^^ g (i + 2 + m))
    rw [ih rfl, h3 _ (by omega) (by omega)]
/-- neighbours changed -/
theorem ip_adj {f : Nat → Nat} {i : Nat} (hne : f i ≠ f (i + 1)) : ∀ m n, i + 2 + m = n → ip (sw f i (i + 1)) n = !ip f n := by
  have s1 : sw f i (i + 1) i = f (i + 1) := if_pos rfl
  have s2 : sw f i (i + 1) (i + 1) = f i := by
    unfold sw
    rw [if_neg (by omega), if_pos rfl]
  have s3 : ∀ k, k ≠ i → k ≠ i + 1 → sw f i (i + 1) k = f k := fun k q1 q2 => by
    unfold sw
    rw [if_neg q1, if_neg q2]
  intro m
  induction m with
  | zero =>
    intro n e
    subst e
    show ((ip (sw f i (i + 1)) i ^^ xb (fun b => decide (sw f i (i + 1) i < sw f i (i + 1) b)) i) ^^ (xb (fun b => decide (sw f i (i + 1) (i + 1) < sw f i (i + 1) b)) i ^^ decide (sw f i (i + 1) (i + 1) < sw f i (i + 1) i))) = !((ip f i ^^ xb (fun b => decide (f i < f b)) i) ^^ (xb (fun b => decide (f (i + 1) < f b)) i ^^ decide (f (i + 1) < f i)))
    rw [s1, s2]
    have e1 : ip (sw f i (i + 1)) i = ip f i := xb_cg fun a ha => by
      rw [s3 a (by omega) (by omega)]
      exact xb_cg fun b hb => by rw [s3 b (by omega) (by omega)]
    have e2 : ∀ v, xb (fun b => decide (v < sw f i (i + 1) b)) i = xb (fun b => decide (v < f b)) i := fun v => xb_cg fun b hb => by rw [s3 b (by omega) (by omega)]
    rw [e1, e2, e2]
    have e3 : decide (f i < f (i + 1)) = !decide (f (i + 1) < f i) := by
      rcases Nat.lt_or_gt_of_ne hne with q | q
      · rw [decide_eq_true q, decide_eq_false (by omega)]
        rfl
      · rw [decide_eq_false (by omega), decide_eq_true q]
        rfl
    rw [e3]
    generalize ip f i = A
    generalize xb (fun b => decide (f i < f b)) i = B
    generalize xb (fun b => decide (f (i + 1) < f b)) i = C
    generalize decide (f (i + 1) < f i) = D
    revert A B C D
    decide
  | succ m ih =>
    intro n e
    subst e
    show (ip (sw f i (i + 1)) (i + 2 + m) ^^ xb (fun b => decide (sw f i (i + 1) (i + 2 + m) < sw f i (i + 1) b)) (i + 2 + m)) = !(ip f (i + 2 + m) ^^ xb (fun b => decide (f (i + 2 + m) < f b)) (i + 2 + m))
    rw [ih _ rfl, s3 _ (by omega) (by omega), sw_xb (g := fun b => decide (f (i + 2 + m) < f b)) (i := i) (by rw [s1]) (by rw [s2]) (fun k q1 q2 => by rw [s3 k q1 q2]) m rfl]
    generalize ip f (i + 2 + m) = A
    generalize xb (fun b => decide (f (i + 2 + m) < f b)) (i + 2 + m) = B
    revert A B
    decide
theorem sw_inj {f : Nat → Nat} {n i j : Nat} (hi : i < n) (hj : j < n) (h : ∀ p q, p < n → q < n → f p = f q → p = q) : ∀ p q, p < n → q < n → sw f i j p = sw f i j q → p = q := by
  intro p q hp hq e
  unfold sw at e
  split at e
  · split at e
    · omega
    · split at e
      · have := h _ _ hj hi e
        omega
      · have := h _ _ hj hq e
        omega
  · split at e
    · split at e
      · have := h _ _ hi hj e
        omega
      · split at e
        · omega
        · have := h _ _ hi hq e
          omega
    · split at e
      · have := h _ _ hp hj e
        omega
      · split at e
        · have := h _ _ hp hi e
          omega
        · exact h _ _ hp hq e
theorem ip_sw {n : Nat} : ∀ (k i : Nat) (f : Nat → Nat), i + k + 1 < n → (∀ p q, p < n → q < n → f p = f q → p = q) → ip (sw f i (i + k + 1)) n = !ip f n
  | 0, i, f, h, hf => ip_adj (fun e => by have := hf _ _ (by omega) (by omega) e; omega) (n - i - 2) n (by omega)
  | k + 1, i, f, h, hf => by
    have e : sw f i (i + (k + 1) + 1) = sw (sw (sw f (i + k + 1) (i + k + 1 + 1)) i (i + k + 1)) (i + k + 1) (i + k + 1 + 1) := by
      funext p
      unfold sw
      repeat' split
      all_goals first | (exfalso; omega) | exact congrArg f (by omega)
    have i1 := sw_inj (i := i + k + 1) (j := i + k + 1 + 1) (by omega) (by omega) hf
    have i2 := sw_inj (i := i) (j := i + k + 1) (by omega) (by omega) i1
    rw [e, ip_adj (fun e => by have := i2 _ _ (by omega) (by omega) e; omega) (n - (i + k + 1) - 2) n (by omega), ip_sw k i _ (by omega) i1, ip_adj (fun e => by have := hf _ _ (by omega) (by omega) e; omega) (n - (i + k + 1) - 2) n (by omega), Bool.not_not]
theorem ip_sw2 {n i j : Nat} {f : Nat → Nat} (hi : i < n) (hj : j < n) (hne : i ≠ j) (hf : ∀ p q, p < n → q < n → f p = f q → p = q) : ip (sw f i j) n = !ip f n := by
  rcases Nat.lt_or_gt_of_ne hne with h | h
  · have := ip_sw (n := n) (j - i - 1) i f (by omega) hf
    rwa [show i + (j - i - 1) + 1 = j by omega] at this
  · have e : sw f i j = sw f j i := by
      funext p
      unfold sw
      repeat' split
      all_goals first | (exfalso; omega) | rfl
    have := ip_sw (n := n) (i - j - 1) j f (by omega) hf
    rw [show j + (i - j - 1) + 1 = i by omega] at this
    rw [e, this]
theorem ip_id (n : Nat) : ip (fun p => p) n = false := xb_f fun a ha => xb_f fun b hb => decide_eq_false (show ¬ a < b by omega)
/-- places that stay aside don't matter -/
theorem ip_up {n : Nat} {f : Nat → Nat} (hf : pm n f) : ∀ m, ip f (n + m) = ip f n
  | 0 => rfl
  | m + 1 => by
    show (ip f (n + m) ^^ xb (fun b => decide (f (n + m) < f b)) (n + m)) = ip f n
    rw [ip_up hf m, xb_f (fun b hb => decide_eq_false (by
      rw [hf.2.2 _ (show n ≤ n + m by omega)]
      by_cases q : b < n
      · have := hf.1 b q
        omega
      · rw [hf.2.2 b (by omega)]
        omega)), Bool.xor_false]
/-- bits of a set below 10 -/
def bts (M : Nat) (A : Nat → Bool) : Prop := M < 1024 ∧ ∀ p, p < 10 → M.testBit p = A p
theorem bts_0 : bts 0 (fun _ => false) := ⟨by decide, fun p _ => Nat.zero_testBit p⟩
def fuB (A : Nat → Bool) (p : Nat) : Nat → Bool := fun q => if q = p then true else A q
theorem bts_or {M p : Nat} {A : Nat → Bool} (h : bts M A) (hp : p < 10) : bts (M ||| 2 ^ p) (fuB A p) := by
  refine ⟨Nat.or_lt_two_pow (n := 10) h.1 (Nat.pow_lt_pow_right (by decide) hp), fun q hq => ?_⟩
  rw [Nat.testBit_or, h.2 q hq, Nat.testBit_two_pow]
  unfold fuB
  by_cases e : q = p
  · rw [if_pos e, decide_eq_true e.symm, Bool.or_true]
  · rw [if_neg e, decide_eq_false (fun q => e q.symm), Bool.or_false]
theorem iI_bv (n : Nat) : (iI (n : Int)).toBitVec = BitVec.ofNat 32 n := by rw [← nI_I]; rfl
theorem iI_or (a b : Nat) : iI (a : Int) ||| iI (b : Int) = iI ((a ||| b : Nat) : Int) := by
  refine Int32.toBitVec_inj.mp ?_
  rw [Int32.toBitVec_or, iI_bv, iI_bv, iI_bv]
  refine BitVec.eq_of_toNat_eq ?_
  simp only [BitVec.toNat_or, BitVec.toNat_ofNat]
  exact (Nat.or_mod_two_pow).symm
theorem bit_all : ∀ p : Nat, p < 10 → ∀ M : Nat, M < 1024 → (((iI (M : Int)).toUInt32 >>> ((iI (p : Int)).toUInt32 &&& Int32.toUInt32 31)).toInt32) &&& iI 1 = iI ((if M.testBit p then 1 else 0 : Nat) : Int) := by decide +kernel
theorem bit_at {M p : Nat} {A : Nat → Bool} (h : bts M A) (hp : p < 10) : (((iI (M : Int)).toUInt32 >>> ((iI (p : Int)).toUInt32 &&& Int32.toUInt32 31)).toInt32) &&& iI 1 = iI ((if A p then 1 else 0 : Nat) : Int) := by
  rw [bit_all p hp M h.1, h.2 p hp]
def clo (f : Nat → Nat) (A : Nat → Bool) : Prop := ∀ p, p < 10 → A p = true → A (f p) = true
def prd (f : Nat → Nat) (A : Nat → Bool) : Prop := ∀ p, p < 10 → A p = true → ∃ r, r < 10 ∧ A r = true ∧ f r = p
def rs (f : Nat → Nat) (A : Nat → Bool) (p : Nat) : Nat := if A p = true then f p else p
def rsq (f : Nat → Nat) (A : Nat → Bool) (q k p : Nat) : Nat := if p = q then k else if A p = true then f p else p
theorem fuB_s (A : Nat → Bool) (p : Nat) : fuB A p p = true := if_pos rfl
theorem fuB_o {A : Nat → Bool} {p q : Nat} (h : q ≠ p) : fuB A p q = A q := if_neg h
theorem fuB_u {A : Nat → Bool} {p q : Nat} (h : A q = true) : fuB A p q = true := by
  unfold fuB
  split
  · rfl
  · exact h
/-- while a cycle is walked, from k on, come to q -/
def cyJ (f : Nat → Nat) (k : Nat) (A : Nat → Bool) (q : Nat) : Prop := A q = false ∧ q < 10 ∧ (k = q ∨ A k = true) ∧ (∀ p, p < k → A p = true) ∧ (∀ p, p < 10 → A p = true → A (f p) = true ∨ f p = q) ∧ (∀ p, p < 10 → A p = true ∨ p = q → p ≠ k → ∃ r, r < 10 ∧ A r = true ∧ f r = p) ∧ ∀ r, r < 10 → A r = true → f r ≠ k
theorem cyJ_0 {f : Nat → Nat} {k : Nat} {A : Nat → Bool} (hk : k < 10) (hA : A k = false) (h : ∀ p, p < k → A p = true) (hc : clo f A) (hp : prd f A) : cyJ f k A k := ⟨hA, hk, Or.inl rfl, h, fun p q1 q2 => Or.inl (hc p q1 q2), fun p q1 q2 q3 => q2.elim (fun q => hp p q1 q) (fun q => absurd q q3), fun r q1 q2 e => by
  have := hc r q1 q2
  rw [e, hA] at this
  cases this⟩
theorem rsq_0 {f : Nat → Nat} {k : Nat} {A : Nat → Bool} (hA : A k = false) : rsq f A k k = rs f A := by
  funext p
  unfold rsq rs
  by_cases e : p = k
  · subst e
    rw [if_pos rfl, hA]
    rfl
  · rw [if_neg e]
theorem rsq_end {f : Nat → Nat} {k q : Nat} {A : Nat → Bool} (h : f q = k) : rsq f A q k = rs f (fuB A q) := by
  funext p
  unfold rsq rs
  by_cases e : p = q
  · subst e
    rw [if_pos rfl, fuB_s, if_pos rfl, h]
  · rw [if_neg e, fuB_o e]
theorem cyJ_end {f : Nat → Nat} {k q : Nat} {A : Nat → Bool} (h : cyJ f k A q) (e : f q = k) : (∀ p, p < k + 1 → fuB A q p = true) ∧ clo f (fuB A q) ∧ prd f (fuB A q) := by
  obtain ⟨h1, h2, h3, h4, h5, h6, h7⟩ := h
  have hk : fuB A q k = true := h3.elim (fun q => by rw [q]; exact fuB_s _ _) fuB_u
  refine ⟨fun p hp => ?_, fun p hp ha => ?_, fun p hp ha => ?_⟩
  · by_cases c : p = k
    · rw [c]
      exact hk
    · exact fuB_u (h4 p (by omega))
  · by_cases c : p = q
    · rw [c, e]
      exact hk
    · rw [fuB_o c] at ha
      rcases h5 p hp ha with g | g
      · exact fuB_u g
      · rw [g]
        exact fuB_s _ _
  · by_cases c : p = k
    · exact ⟨q, h2, fuB_s _ _, by rw [c, e]⟩
    · obtain ⟨r, g1, g2, g3⟩ := h6 p hp (by
        by_cases c2 : p = q
        · exact Or.inr c2
        · rw [fuB_o c2] at ha
          exact Or.inl ha) c
      exact ⟨r, g1, fuB_u g2, g3⟩
theorem cyJ_s {f : Nat → Nat} {k q : Nat} {A : Nat → Bool} (hf : pm 10 f) (h : cyJ f k A q) (e : f q ≠ k) : cyJ f k (fuB A q) (f q) := by
  obtain ⟨h1, h2, h3, h4, h5, h6, h7⟩ := h
  have hn : fuB A q (f q) = false := by
    cases hc : fuB A q (f q) with
    | false => rfl
    | true =>
      obtain ⟨r, g1, g2, g3⟩ := h6 (f q) (hf.1 q h2) (by
        by_cases c2 : f q = q
        · exact Or.inr c2
        · rw [fuB_o c2] at hc
          exact Or.inl hc) e
      have := hf.2.1 r q g1 h2 g3
      rw [this, h1] at g2
      cases g2
  refine ⟨hn, hf.1 q h2, Or.inr (h3.elim (fun q => by rw [q]; exact fuB_s _ _) fuB_u), fun p hp => fuB_u (h4 p hp), fun p hp ha => ?_, fun p hp ha hk => ?_, fun r hr ha => ?_⟩
  · by_cases c : p = q
    · rw [c]
      exact Or.inr rfl
    · rw [fuB_o c] at ha
      rcases h5 p hp ha with g | g
      · exact Or.inl (fuB_u g)
      · rw [g]
        exact Or.inl (fuB_s _ _)
  · rcases ha with ha | ha
    · obtain ⟨r, g1, g2, g3⟩ := h6 p hp (by
        by_cases c2 : p = q
        · exact Or.inr c2
        · rw [fuB_o c2] at ha
          exact Or.inl ha) hk
      exact ⟨r, g1, fuB_u g2, g3⟩
    · exact ⟨q, h2, fuB_s _ _, ha.symm⟩
  · by_cases c : r = q
    · rw [c]
      exact e
    · rw [fuB_o c] at ha
      exact h7 r hr ha
theorem rsq_inj {f : Nat → Nat} {k q : Nat} {A : Nat → Bool} (hf : pm 10 f) (h : cyJ f k A q) : ∀ a b, a < 10 → b < 10 → rsq f A q k a = rsq f A q k b → a = b := by
  obtain ⟨h1, h2, h3, h4, h5, h6, h7⟩ := h
  have key : ∀ a b, a < 10 → b < 10 → a = q → b ≠ q → k = (if A b = true then f b else b) → False := fun a b ha hb e1 e2 e3 => by
    split at e3
    · rename_i c
      exact h7 b hb c e3.symm
    · rename_i c
      rcases h3 with g | g
      · exact e2 (e3.symm.trans g)
      · rw [e3] at g
        exact c g
  intro a b ha hb e
  unfold rsq at e
  by_cases c1 : a = q
  · by_cases c2 : b = q
    · omega
    · rw [if_pos c1, if_neg c2] at e
      exact (key a b ha hb c1 c2 e).elim
  · by_cases c2 : b = q
    · rw [if_neg c1, if_pos c2] at e
      exact (key b a hb ha c2 c1 e.symm).elim
    · rw [if_neg c1, if_neg c2] at e
      by_cases d1 : A a = true
      · by_cases d2 : A b = true
        · rw [if_pos d1, if_pos d2] at e
          exact hf.2.1 a b ha hb e
        · rw [if_pos d1, if_neg d2] at e
          rcases h5 a ha d1 with g | g
          · rw [e] at g
            exact absurd g d2
          · exact absurd (e.symm.trans g) c2
      · by_cases d2 : A b = true
        · rw [if_neg d1, if_pos d2] at e
          rcases h5 b hb d2 with g | g
          · rw [← e] at g
            exact absurd g d1
          · exact absurd (e.trans g) c1
        · rw [if_neg d1, if_neg d2] at e
          exact e
theorem rsq_s {f : Nat → Nat} {k q : Nat} {A : Nat → Bool} (hf : pm 10 f) (h : cyJ f k A q) (e : f q ≠ k) : ip (rsq f (fuB A q) (f q) k) 10 = !ip (rsq f A q k) 10 := by
  have h' := cyJ_s hf h e
  have hq : f q ≠ q := fun c => by
    have := h'.1
    rw [c, fuB_s] at this
    cases this
  have hA : A (f q) = false := by
    have := h'.1
    rwa [fuB_o hq] at this
  have e2 : rsq f (fuB A q) (f q) k = sw (rsq f A q k) q (f q) := by
    funext p
    unfold sw
    by_cases c1 : p = q
    · subst c1
      rw [if_pos rfl]
      unfold rsq
      rw [if_neg (fun c => hq c.symm), fuB_s, if_pos rfl, if_neg hq, hA]
      rfl
    · rw [if_neg c1]
      by_cases c2 : p = f q
      · rw [if_pos c2]
        unfold rsq
        rw [if_pos c2, if_pos rfl]
      · rw [if_neg c2]
        unfold rsq
        rw [if_neg c2, if_neg c1, fuB_o c1]
  rw [e2]
  exact ip_sw2 h.2.1 (hf.1 q h.2.1) (fun c => hq c.symm) (rsq_inj hf h)
theorem ct_9 {A : Nat → Bool} {q : Nat} (hq : q < 10) (h : A q = false) : ct A 10 < 10 := by
  have := ct_lt (a := A) (b := fun _ => true) (i := q) (n := 10) (fun _ _ _ => rfl) hq h rfl
  rwa [show ct (fun _ => true) 10 = 10 from rfl] at this
theorem ct_fuB {A : Nat → Bool} {q n : Nat} (hq : q < n) (h : A q = false) : ct (fuB A q) n = ct A n + 1 := ct_set hq h (fuB_s A q) (fun k _ c => fuB_o c)
theorem bz_not (b : Bool) : bz b = iI ((if b then 1 else 0 : Nat) : Int) := by cases b <;> rfl
