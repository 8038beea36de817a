/-! Words: what the signs come to, as a machine over lists. -/
def nth (l : List Nat) (i : Nat) : Nat := (l[i]?).getD 0
theorem nth_l {l m : List Nat} {i : Nat} (h : i < l.length) : nth (l ++ m) i = nth l i := by
  unfold nth
  rw [List.getElem?_append_left h]
theorem nth_r (l m : List Nat) (j : Nat) : nth (l ++ m) (l.length + j) = nth m j := by
  unfold nth
  rw [List.getElem?_append_right (by omega)]
  congr 2
  omega
theorem nth_ri {l m : List Nat} {i : Nat} (h : l.length ≤ i) : nth (l ++ m) i = nth m (i - l.length) := by
  have := nth_r l m (i - l.length)
  rwa [show l.length + (i - l.length) = i by omega] at this
theorem nth_0 (a : Nat) (l : List Nat) : nth (a :: l) 0 = a := rfl
theorem nth_s (a : Nat) (l : List Nat) (i : Nat) : nth (a :: l) (i + 1) = nth l i := rfl
theorem nth_take {l : List Nat} {a i : Nat} (h : i < a) : nth (l.take a) i = nth l i := by
  unfold nth
  rw [List.getElem?_take_of_lt h]
theorem nth_drop (l : List Nat) (a i : Nat) : nth (l.drop a) i = nth l (a + i) := by
  unfold nth
  rw [List.getElem?_drop]
theorem nth_mem {l : List Nat} {i : Nat} (h : i < l.length) : nth l i ∈ l := by
  unfold nth
  rw [List.getElem?_eq_getElem h]
  exact List.getElem_mem h
theorem nth_map {l : List Nat} (f : Nat → Nat) {i : Nat} (h : i < l.length) : nth (l.map f) i = f (nth l i) := by
  unfold nth
  rw [List.getElem?_map, List.getElem?_eq_getElem h]
  rfl
theorem nth_rev {l : List Nat} {i : Nat} (h : i < l.length) : nth l.reverse i = nth l (l.length - 1 - i) := by
  unfold nth
  rw [List.getElem?_reverse h]
theorem nth_ext {l m : List Nat} (h : l.length = m.length) (k : ∀ i, i < l.length → nth l i = nth m i) : l = m := by
  refine List.ext_getElem h fun i h1 h2 => ?_
  have := k i h1
  unfold nth at this
  rwa [List.getElem?_eq_getElem h1, List.getElem?_eq_getElem h2] at this
/-- a turn the other way -/
def fl (t : Nat) : Nat := t ^^^ 1
theorem fl_lt {t : Nat} (h : t < 8) : fl t < 8 := by
  have : ∀ t, t < 8 → fl t < 8 := by decide
  exact this t h
theorem fl_fl (t : Nat) : fl (fl t) = t := by
  unfold fl
  rw [Nat.xor_assoc, Nat.xor_self, Nat.xor_zero]
theorem fl_I : ∀ t : Nat, t < 8 → iI (t : Int) ^^^ iI 1 = iI (fl t : Int) := by decide +kernel
def spA (l m : List Nat) : Option (List Nat) := if l.length + m.length ≤ 120 then some (l ++ m) else none
/-- a stretch, back -/
def bk (l : List Nat) (a b : Nat) : List Nat := (((l.take b).drop a).reverse).map fl
theorem bk_len {l : List Nat} {a b : Nat} (h : b ≤ l.length) : (bk l a b).length = b - a := by
  unfold bk
  rw [List.length_map, List.length_reverse, List.length_drop, List.length_take]
  omega
theorem bk_nth {l : List Nat} {a b i : Nat} (h : b ≤ l.length) (hi : i < b - a) : nth (bk l a b) i = fl (nth l (b - 1 - i)) := by
  unfold bk
  have e : ((l.take b).drop a).length = b - a := by
    rw [List.length_drop, List.length_take]
    omega
  rw [nth_map fl (by rw [List.length_reverse, e]; exact hi), nth_rev (by rw [e]; exact hi), e, nth_drop, nth_take (by omega)]
  congr 2
  omega
theorem bk_self (l : List Nat) (a : Nat) : bk l a a = [] := by
  unfold bk
  rw [List.drop_eq_nil_of_le (by rw [List.length_take]; omega)]
  rfl
theorem bk_step {l : List Nat} {a b : Nat} (h : b ≤ l.length) (ha : a < b) : bk l a b = bk l (a + 1) b ++ [fl (nth l a)] := by
  have e1 := bk_len (a := a) h
  have e2 := bk_len (a := a + 1) h
  refine nth_ext (by rw [List.length_append, e1, e2]; show b - a = b - (a + 1) + 1; omega) fun i hi => ?_
  rw [e1] at hi
  rw [bk_nth h hi]
  by_cases c : i < b - (a + 1)
  · rw [nth_l (by rw [e2]; exact c), bk_nth h c]
  · rw [nth_ri (by rw [e2]; omega), e2, show i - (b - (a + 1)) = 0 by omega, nth_0]
    congr 2
    omega
theorem bk_mem {l : List Nat} {a b t : Nat} (hl : ∀ t, t ∈ l → t < 8) (h : t ∈ bk l a b) : t < 8 := by
  unfold bk at h
  obtain ⟨x, h1, rfl⟩ := List.mem_map.mp h
  exact fl_lt (hl x (List.mem_of_mem_take (List.mem_of_mem_drop (List.mem_reverse.mp h1))))
def rp : Nat → List Nat → List Nat
  | 0, _ => []
  | k + 1, s => rp k s ++ s
theorem rp_mem {s : List Nat} {t : Nat} : ∀ {k : Nat}, t ∈ rp k s → t ∈ s
  | 0, h => by cases h
  | k + 1, h => by
    rcases List.mem_append.mp h with h | h
    · exact rp_mem h
    · exact h
theorem rp_len (s : List Nat) : ∀ k, (rp k s).length = k * s.length
  | 0 => (Nat.zero_mul _).symm
  | k + 1 => by
    show (rp k s ++ s).length = _
    rw [List.length_append, rp_len s k, Nat.succ_mul]
theorem spA_some {l m l' : List Nat} (h : spA l m = some l') : l' = l ++ m ∧ l.length + m.length ≤ 120 := by
  unfold spA at h
  split at h
  · rename_i c
    exact ⟨(Option.some.inj h).symm, c⟩
  · cases h
theorem spA_none {l m : List Nat} (h : spA l m = none) : 120 < l.length + m.length := by
  unfold spA at h
  split at h
  · cases h
  · omega
theorem spA_of {l m : List Nat} (h : l.length + m.length ≤ 120) : spA l m = some (l ++ m) := if_pos h
theorem spA_no {l m : List Nat} (h : 120 < l.length + m.length) : spA l m = none := if_neg (by omega)
/-- turns, brackets that are open (the last first: sign, where it began, its middle), where the part began, may it be repeated, may it go back -/
abbrev wSt : Type := List Nat × List (Nat × Nat × Nat) × Nat × Bool × Bool
def wBar : wSt → Option wSt
  | (l, (o, s, _) :: r, p, _, _) => if o = 91 then some (l, (124, s, l.length) :: r, p, false, false) else none
  | _ => none
def wShA : wSt → Option wSt
  | (l, (o, s, _) :: r, _, _, _) => if o = 60 then some (l, r, s, true, true) else none
  | _ => none
def wShB : wSt → Option wSt
  | (l, (o, s, m) :: r, _, _, _) => if o = 124 then ((spA l (bk l s m)).bind fun l1 => spA l1 (bk l1 m l.length)).map fun l' => (l', r, s, true, true) else none
  | _ => none
/-- one sign -/
def mk1 (c : Nat) (w : wSt) : Option wSt :=
  if 65 ≤ c ∧ c ≤ 68 then (spA w.1 [2 * (c - 65)]).map fun l' => (l', w.2.1, w.1.length, true, true)
  else if 50 ≤ c ∧ c ≤ 57 then (if w.2.2.2.1 then (spA w.1 (rp (c - 49) (w.1.drop w.2.2.1))).map fun l' => (l', w.2.1, w.2.2.1, false, w.2.2.2.2) else none)
  else if c = 60 ∨ c = 91 then (if w.2.1.length < 30 then some (w.1, (c, w.1.length, 0) :: w.2.1, w.2.2.1, false, false) else none)
  else if c = 124 then wBar w
  else if c = 62 then wShA w
  else if c = 93 then wShB w
  else if c = 45 then (if w.2.2.2.2 then some (w.1.take w.2.2.1 ++ bk w.1 w.2.2.1 w.1.length, w.2.1, w.2.2.1, false, false) else none)
  else none
def mkN : List Nat → wSt → Option wSt
  | [], w => some w
  | c :: t, w => (mk1 c w).bind fun w' => mkN t w'
def w0 : wSt := ([], [], 0, false, false)
/-- what signs are spelled out to -/
def spell (sg : List Nat) : Option (List Nat) := (mkN sg w0).bind fun w => if w.2.1 = [] then some w.1 else none
/-- what holds of the brackets -/
def skOK (n : Nat) : List (Nat × Nat × Nat) → Prop
  | [] => True
  | (o, s, m) :: r => s ≤ n ∧ (o = 124 → s ≤ m ∧ m ≤ n) ∧ skOK n r
theorem skOK_up {n n' : Nat} (h : n ≤ n') : ∀ {k : List (Nat × Nat × Nat)}, skOK n k → skOK n' k
  | [], _ => trivial
  | (o, s, m) :: r, k => ⟨Nat.le_trans k.1 h, fun e => ⟨(k.2.1 e).1, Nat.le_trans (k.2.1 e).2 h⟩, skOK_up h k.2.2⟩
def wOK (w : wSt) : Prop := w.1.length ≤ 120 ∧ (∀ t, t ∈ w.1 → t < 8) ∧ skOK w.1.length w.2.1 ∧ (w.2.2.2.1 = true ∨ w.2.2.2.2 = true → w.2.2.1 ≤ w.1.length)
theorem spA_ok {l m l' : List Nat} (h : spA l m = some l') (h1 : ∀ t, t ∈ l → t < 8) (h2 : ∀ t, t ∈ m → t < 8) : l'.length ≤ 120 ∧ (∀ t, t ∈ l' → t < 8) ∧ l.length ≤ l'.length := by
  obtain ⟨rfl, k⟩ := spA_some h
  rw [List.length_append]
  exact ⟨k, fun t q => (List.mem_append.mp q).elim (h1 t) (h2 t), by omega⟩
theorem mk1_ok {c : Nat} {w w' : wSt} (h : wOK w) (k : mk1 c w = some w') : wOK w' := by
  obtain ⟨l, stk, p, cr, cb⟩ := w
  obtain ⟨h1, h2, h3, h4⟩ := h
  dsimp only at h1 h2 h3 h4
  unfold mk1 at k
  dsimp only at k
  split at k
  · rename_i e
    obtain ⟨l', k1, rfl⟩ := Option.map_eq_some_iff.mp k
    obtain ⟨a1, a2, a3⟩ := spA_ok k1 h2 (fun t q => by
      rw [List.mem_singleton] at q
      omega)
    exact ⟨a1, a2, skOK_up a3 h3, fun _ => a3⟩
  split at k
  · split at k
    · rename_i e
      obtain ⟨l', k1, rfl⟩ := Option.map_eq_some_iff.mp k
      obtain ⟨a1, a2, a3⟩ := spA_ok k1 h2 (fun t q => h2 t (List.mem_of_mem_drop (rp_mem q)))
      refine ⟨a1, a2, skOK_up a3 h3, fun q => ?_⟩
      exact Nat.le_trans (h4 (Or.inl e)) a3
    · cases k
  split at k
  · split at k
    · cases k
      refine ⟨h1, h2, ⟨Nat.le_refl _, fun e => ?_, h3⟩, fun q => by simp at q⟩
      rename_i e1 e2
      omega
    · cases k
  split at k
  · unfold wBar at k
    split at k
    · rename_i o s m r p' _ _ e
      cases e
      split at k
      · cases k
        exact ⟨h1, h2, ⟨h3.1, fun _ => ⟨h3.1, Nat.le_refl _⟩, h3.2.2⟩, fun q => by simp at q⟩
      · cases k
    · cases k
  split at k
  · unfold wShA at k
    split at k
    · rename_i o s m r p' _ _ e
      cases e
      split at k
      · cases k
        exact ⟨h1, h2, h3.2.2, fun _ => h3.1⟩
      · cases k
    · cases k
  split at k
  · unfold wShB at k
    split at k
    · rename_i o s m r p' _ _ e
      cases e
      split at k
      · rename_i eo
        obtain ⟨l', k1, rfl⟩ := Option.map_eq_some_iff.mp k
        obtain ⟨l1, k2, k3⟩ := Option.bind_eq_some_iff.mp k1
        obtain ⟨a1, a2, a3⟩ := spA_ok k2 h2 (fun t q => bk_mem h2 q)
        obtain ⟨b1, b2, b3⟩ := spA_ok k3 a2 (fun t q => bk_mem a2 q)
        have h5 := h3.1
        exact ⟨b1, b2, skOK_up (Nat.le_trans a3 b3) h3.2.2, fun _ => show s ≤ l'.length by omega⟩
      · cases k
    · cases k
  split at k
  · split at k
    · rename_i e
      cases k
      have hp := h4 (Or.inr e)
      have e1 : (l.take p ++ bk l p l.length).length = l.length := by
        rw [List.length_append, bk_len (Nat.le_refl _), List.length_take]
        omega
      refine ⟨by rw [e1]; exact h1, fun t q => ?_, by rw [e1]; exact h3, fun q => by simp at q⟩
      rcases List.mem_append.mp q with q | q
      · exact h2 t (List.mem_of_mem_take q)
      · exact bk_mem h2 q
    · cases k
  · cases k
theorem w0_ok : wOK w0 := ⟨by decide, (fun t h => by cases h), trivial, (fun h => by simp [w0] at h)⟩
theorem mkN_ok : ∀ {sg : List Nat} {w w' : wSt}, wOK w → mkN sg w = some w' → wOK w'
  | [], w, w', h, k => by
    cases k
    exact h
  | c :: t, w, w', h, k => by
    obtain ⟨w1, k1, k2⟩ := Option.bind_eq_some_iff.mp k
    exact mkN_ok (mk1_ok h k1) k2
theorem spell_ok {sg l : List Nat} (h : spell sg = some l) : l.length ≤ 120 ∧ ∀ t, t ∈ l → t < 8 := by
  obtain ⟨w, k1, k2⟩ := Option.bind_eq_some_iff.mp h
  have := mkN_ok w0_ok k1
  split at k2
  · cases k2
    exact ⟨this.1, this.2.1⟩
  · cases k2
