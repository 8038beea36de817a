/-! What the machine's heap is when a memory is held; the words of all methods; and a row for each instruction that touches the heap. -/
def zval (ty : FieldType) (M : zM) (a k : Nat) : Value := match ty with
  | .long => .long (zL M a k)
  | .double => .double (zL M a k).toUInt64
  | .object _ => va_rf (zP M a k)
  | .array _ => va_rf (zP M a k)
  | _ => .int (zI M a k)
/-- the script: an array of ints that was there before, and is only read -/
def zsc (cA : Nat → ClassId) (M : zM) (H : Heap) (a n : Nat) : Prop := ∃ scr : Cell, H[a]? = some scr ∧ scr.cls = cA 10 ∧ (∀ k, scr.vm ≠ .statics k) ∧ scr.vm ≠ .unknown ∧ scr.slots.size = n ∧ ∀ j : Nat, j < n → scr.slots[j]? = some (.int (zI M a j))
def zat (D : va_G) (cA : Nat → ClassId) (M : zM) (H : Heap) (a t n : Nat) : Prop := if t < 8 then t_OB a (D.1 t) (zNf t) (D.2 t) H (fun k => zval (zty t k) M a k) else if t = 30 then zsc cA M H a n else H[a]? = some (arrV (cA (t - 20)) n (fun k => zval (zel (t - 20)) M a k))
def zWd (D : va_G) (cA : Nat → ClassId) (b0 : Nat) (M : zM) (H : Heap) : Prop := H.size = zN M ∧ (∀ a t n, zK M a = some (t, n) → (t = 30 ∨ (b0 ≤ a ∧ (t < 8 ∨ (20 ≤ t ∧ t < 30)))) ∧ zat D cA M H a t n) ∧ ∀ a, zN M ≤ a → zfresh M a
theorem zWd.own {D : va_G} {cA : Nat → ClassId} {b0 : Nat} {M : zM} {H : Heap} {a t n : Nat} (h : zWd D cA b0 M H) (hk : zK M a = some (t, n)) (h30 : t ≠ 30 := by omega) : b0 ≤ a := (h.2.1 a t n hk).1.elim (fun q => absurd q h30) (fun q => q.1)
def zNs (cA : Nat → ClassId) (s : State) (i j : Nat) : Prop := ∃ k, s.vm.classes[cA i]? = some k ∧ k.kind = .array (cA j) (zel i)
theorem zNs.moved {cA : Nat → ClassId} {u U : State} {i j : Nat} (hvm : u.vm.Alike U.vm) (h : zNs cA u i j) : zNs cA U i j := by
  obtain ⟨k, h1, h2⟩ := h
  obtain ⟨k', h3, h4⟩ := hvm.2.2 _ _ h1
  exact ⟨k', h3, by rw [h4]; exact h2⟩
def zKn (D : va_G) (cA : Nat → ClassId) (s : State) : Prop := (∀ t, t < 8 → u_Kn s (zR t) (zT t) (zNf t) (D.1 t) (D.2 t)) ∧ (∀ j, j < 10 → ArrOfT s (cA j) (zel j) ∧ va_RA s (cA j) (zel j)) ∧ (∃ k, s.vm.classes[cA 10]? = some k ∧ ∃ comp, k.kind = .array comp .int) ∧ zNs cA s 5 0
theorem zKn.moved {D : va_G} {cA : Nat → ClassId} {u U : State} (hvm : u.vm.Alike U.vm) (h : zKn D cA u) : zKn D cA U := ⟨fun t ht => u_Kn_moved hvm (h.1 t ht), fun j hj => ⟨arrOfT_moved hvm (h.2.1 j hj).1, (h.2.1 j hj).2.moved hvm⟩, by
  obtain ⟨k, h1, comp, h2⟩ := h.2.2.1
  obtain ⟨k', h3, h4⟩ := hvm.2.2 _ _ h1
  exact ⟨⟨k', h3, comp, by rw [h4]; exact h2⟩, h.2.2.2.moved hvm⟩⟩
theorem co8 {P : Nat → Prop} (h0 : P 0) (h1 : P 1) (h2 : P 2) (h3 : P 3) (h4 : P 4) (h5 : P 5) (h6 : P 6) (h7 : P 7) {i : Nat} (hi : i < 8) : P i := by
  rcases (show i = 0 ∨ i = 1 ∨ i = 2 ∨ i = 3 ∨ i = 4 ∨ i = 5 ∨ i = 6 ∨ i = 7 by omega) with rfl | rfl | rfl | rfl | rfl | rfl | rfl | rfl <;> assumption
theorem zlay_ok : ∀ t, t < 8 → (u_ws (zR t) (zT t) (zNf t) = (zlay t).filterMap zlk) := by
  intro t ht
  exact co8 (P := fun t => u_ws (zR t) (zT t) (zNf t) = (zlay t).filterMap zlk) (by decide +kernel) (by decide +kernel) (by decide +kernel) (by decide +kernel) (by decide +kernel) (by decide +kernel) (by decide +kernel) (by decide +kernel) ht
theorem zlay_gd : ∀ t, t < 8 → (u_ws (zR t) (zT t) (zNf t)).all goodWord = true := by
  intro t ht
  exact co8 (P := fun t => (u_ws (zR t) (zT t) (zNf t)).all goodWord = true) (by decide +kernel) (by decide +kernel) (by decide +kernel) (by decide +kernel) (by decide +kernel) (by decide +kernel) (by decide +kernel) (by decide +kernel) ht
theorem zu_in (t : Nat) (ht : t < 8) : ∀ w ∈ u_ws (zR t) (zT t) (zNf t), w ∈ zU := by
  intro w hw
  refine List.mem_filter.mpr ⟨?_, List.all_eq_true.mp (zlay_gd t ht) w hw⟩
  rw [zlay_ok t ht] at hw
  obtain ⟨i, -, hi⟩ := List.mem_filterMap.mp hw
  exact zlk_in hi
theorem zty_ok : ∀ t, t < 8 → ∀ k, k < zNf t → parseFieldDescriptor (zT t k).2.2.1 = some (zty t k) := by
  intro t ht
  exact co8 (P := fun t => ∀ k, k < zNf t → parseFieldDescriptor (zT t k).2.2.1 = some (zty t k)) tyX0_ok tyX1_ok tyX2_ok tyX0_ok tyX5_ok tyX6_ok tyX7_ok tyX0_ok ht
theorem znm_ok : ∀ t, t < 8 → ∀ a, a < zNf t → ∀ b, b < zNf t → a ≠ b → (zT t a).2.1 ≠ (zT t b).2.1 := by
  intro t ht
  exact co8 (P := fun t => ∀ a, a < zNf t → ∀ b, b < zNf t → a ≠ b → (zT t a).2.1 ≠ (zT t b).2.1) nmX0 nmX1 nmX2 nmX0 nmX5 nmX6 nmX7 nmX0 ht
/-- the world after one cell has changed -/
theorem zWd.set {D : va_G} {cA : Nat → ClassId} {b0 : Nat} {M M' : zM} {H H1 : Heap} {a t n : Nat} (h : zWd D cA b0 M H) (hk : zK M a = some (t, n)) (hz : H1.size = H.size) (ho : ∀ q : Nat, q ≠ a → H1[q]? = H[q]?) (hK : zK M' = zK M) (hN : zN M' = zN M) (hI : ∀ b, b ≠ a → ∀ k, zI M' b k = zI M b k) (hL : ∀ b, b ≠ a → ∀ k, zL M' b k = zL M b k) (hP : ∀ b, b ≠ a → ∀ k, zP M' b k = zP M b k) (hat : zat D cA M' H1 a t n) : zWd D cA b0 M' H1 := by
  have hv : ∀ ty b, b ≠ a → ∀ k, zval ty M' b k = zval ty M b k := by
    intro ty b hb k
    cases ty <;> simp only [zval, hI b hb, hL b hb, hP b hb]
  refine ⟨by rw [hz, hN]; exact h.1, fun b t' n' hb => ?_, fun b hb => ?_⟩
  · rw [hK] at hb
    by_cases e : b = a
    · subst e
      rw [hk] at hb
      cases hb
      exact ⟨(h.2.1 b t n hk).1, hat⟩
    · obtain ⟨g1, g3⟩ := h.2.1 b t' n' hb
      refine ⟨g1, ?_⟩
      unfold zat at g3 ⊢
      by_cases e8 : t' < 8
      · rw [if_pos e8] at g3 ⊢
        exact (g3.kept (ho b e)).to (fun k _ => (hv _ b e k).symm)
      · rw [if_neg e8] at g3 ⊢
        by_cases e30 : t' = 30
        · rw [if_pos e30] at g3 ⊢
          obtain ⟨scr, q1, q2, q3, q4, q5, q6⟩ := g3
          exact ⟨scr, by rw [ho b e]; exact q1, q2, q3, q4, q5, fun j hj => by rw [q6 j hj, hI b e j]⟩
        · rw [if_neg e30] at g3 ⊢
          rw [ho b e, g3]
          congr 2
          funext k
          exact (hv _ b e k).symm
  · rw [hN] at hb
    obtain ⟨f1, f2, f3, f4⟩ := h.2.2 b hb
    have e : b ≠ a := by
      rintro rfl
      rw [hk] at f1
      cases f1
    exact ⟨by rw [hK]; exact f1, fun k => (hI b e k).trans (f2 k), fun k => (hL b e k).trans (f3 k), fun k => (hP b e k).trans (f4 k)⟩
theorem zval_wI {ty : FieldType} {M : zM} {a k : Nat} {x : Int32} (h : zval ty M a k = .int (zI M a k)) : ∀ j, zval ty (zwI M a k x) a j = updV (fun j => zval ty M a j) k (.int x) j := by
  intro j
  by_cases e : j = k
  · subst e
    cases ty <;> simp [zval, zwI, updV, zI, zL, zP, va_rf] at h ⊢
    all_goals (first | (revert h; split <;> simp) | skip)
  · cases ty <;> simp [zval, zwI, updV, zI, zL, zP, e]
theorem zval_wL {M : zM} {a k : Nat} {x : Int64} : ∀ j, zval .long (zwL M a k x) a j = updV (fun j => zval .long M a j) k (.long x) j := by
  intro j
  by_cases e : j = k <;> simp [zval, zwL, updV, zL, e]
theorem zval_wD {M : zM} {a k : Nat} {x : UInt64} : ∀ j, zval .double (zwL M a k x.toInt64) a j = updV (fun j => zval .double M a j) k (.double x) j := by
  intro j
  by_cases e : j = k <;> simp [zval, zwL, updV, zL, e]
