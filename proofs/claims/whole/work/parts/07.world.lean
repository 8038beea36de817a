/-! What the machine's heap is when a memory is held; the words of all methods; and a row for each instruction that touches the heap. -/
def zel : Nat → FieldType
  | 0 => .int
  | 1 => .long
  | 2 => .boolean
  | 3 => .char
  | 4 => .double
  | 5 => .array .int
  | 6 => .array (.array .int)
  | 7 => .object "TurnFace$Puzzle"
  | 8 => .object "TurnFace$Round"
  | _ => .array .boolean
def zval (ty : FieldType) (M : zM) (a k : Nat) : Value := match ty with
  | .long => .long (zL M a k)
  | .double => .double (zL M a k).toUInt64
  | .object _ => va_rf (zP M a k)
  | .array _ => va_rf (zP M a k)
  | _ => .int (zI M a k)
def zat (D : va_G) (cA : Nat → ClassId) (M : zM) (H : Heap) (a t n : Nat) : Prop := if t < 8 then t_OB a (D.1 t) (zNf t) (D.2 t) H (fun k => zval (zty t k) M a k) else H[a]? = some (arrV (cA (t - 20)) n (fun k => zval (zel (t - 20)) M a k))
def zWd (D : va_G) (cA : Nat → ClassId) (b0 : Nat) (M : zM) (H : Heap) : Prop := H.size = zN M ∧ (∀ a t n, zK M a = some (t, n) → b0 ≤ a ∧ (t < 8 ∨ (20 ≤ t ∧ t < 30)) ∧ zat D cA M H a t n) ∧ ∀ a, zN M ≤ a → zfresh M a
def zKn (D : va_G) (cA : Nat → ClassId) (s : State) : Prop := (∀ t, t < 8 → u_Kn s (zR t) (zT t) (zNf t) (D.1 t) (D.2 t)) ∧ ∀ j, j < 10 → ArrOfT s (cA j) (zel j) ∧ va_RA s (cA j) (zel j)
theorem zKn.moved {D : va_G} {cA : Nat → ClassId} {u U : State} (hvm : u.vm.Alike U.vm) (h : zKn D cA u) : zKn D cA U := ⟨fun t ht => u_Kn_moved hvm (h.1 t ht), fun j hj => ⟨arrOfT_moved hvm (h.2 j hj).1, (h.2 j hj).2.moved hvm⟩⟩
theorem co8 {P : Nat → Prop} (h0 : P 0) (h1 : P 1) (h2 : P 2) (h3 : P 3) (h4 : P 4) (h5 : P 5) (h6 : P 6) (h7 : P 7) {i : Nat} (hi : i < 8) : P i := by
  rcases (show i = 0 ∨ i = 1 ∨ i = 2 ∨ i = 3 ∨ i = 4 ∨ i = 5 ∨ i = 6 ∨ i = 7 by omega) with rfl | rfl | rfl | rfl | rfl | rfl | rfl | rfl <;> assumption
/-- the words that all methods have: those of the tables that a callee may keep -/
def zU : List Cond := lw_tbl.filter goodWord
/-- the tables' words in their pieces: place 1000 k + j is word j of piece k -/
def zseg (k : Nat) : List Cond := match k with
  | 0 => k2_sels lw_privs
  | 1 => tables_1_1
  | 2 => tables_1_2
  | 3 => tables_1_3
  | 4 => tables_1_4
  | 5 => tables_1_5
  | 6 => tables_1_6
  | 7 => tables_1_7
  | 8 => tables_1_8
  | _ => []
theorem zseg_in {k : Nat} {w : Cond} (h : w ∈ zseg k) : w ∈ lw_tbl := by
  unfold lw_tbl tables_1
  simp only [List.mem_append]
  unfold zseg at h
  split at h
  · exact Or.inl h
  · exact Or.inr (Or.inl h)
  · exact Or.inr (Or.inr (Or.inl h))
  · exact Or.inr (Or.inr (Or.inr (Or.inl h)))
  · exact Or.inr (Or.inr (Or.inr (Or.inr (Or.inl h))))
  · exact Or.inr (Or.inr (Or.inr (Or.inr (Or.inr (Or.inl h)))))
  · exact Or.inr (Or.inr (Or.inr (Or.inr (Or.inr (Or.inr (Or.inl h))))))
  · exact Or.inr (Or.inr (Or.inr (Or.inr (Or.inr (Or.inr (Or.inr (Or.inl h)))))))
  · exact Or.inr (Or.inr (Or.inr (Or.inr (Or.inr (Or.inr (Or.inr (Or.inr h)))))))
  · cases h
def zlk (i : Nat) : Option Cond := (zseg (i / 1000))[i % 1000]?
def zwd (i : Nat) (w : Cond) : Bool := decide (zlk i = some w) && goodWord w
theorem zlk_in {i : Nat} {w : Cond} (h : zlk i = some w) : w ∈ lw_tbl := zseg_in (List.mem_of_getElem? h)
theorem zwd_in {i : Nat} {w : Cond} (h : zwd i w = true) : w ∈ zU := by
  simp only [zwd, Bool.and_eq_true, decide_eq_true_eq] at h
  exact List.mem_filter.mpr ⟨zlk_in h.1, h.2⟩
theorem zU_good : ∀ w ∈ zU, goodWord w = true := fun _ h => (List.mem_filter.mp h).2
theorem zlay_ok : ∀ t, t < 8 → (u_ws (zR t) (zT t) (zNf t) = (zlay t).filterMap zlk) := by
  intro t ht
  exact co8 (P := fun t => u_ws (zR t) (zT t) (zNf t) = (zlay t).filterMap zlk) (by decide +kernel) (by decide +kernel) (by decide +kernel) (by decide +kernel) (by decide +kernel) (by decide +kernel) (by decide +kernel) (by decide +kernel) ht
theorem zlay_gd : ∀ t, t < 8 → (u_ws (zR t) (zT t) (zNf t)).all goodWord = true := by
  intro t ht
  exact co8 (P := fun t => (u_ws (zR t) (zT t) (zNf t)).all goodWord = true) (by decide +kernel) (by decide +kernel) (by decide +kernel) (by decide +kernel) (by decide +kernel) (by decide +kernel) (by decide +kernel) (by decide +kernel) ht
theorem zu_in (t : Nat) (ht : t < 8) : ∀ w ∈ u_ws (zR t) (zT t) (zNf t), w ∈ zU := by
  intro w hw
  refine List.mem_filter.mpr ⟨?_, List.all_eq_true.mp (zlay_gd t ht) w hw⟩
  rw [zlay_ok t ht] at hw
  obtain ⟨i, -, hi⟩ := List.mem_filterMap.mp hw
  exact zlk_in hi
theorem zty_ok : ∀ t, t < 8 → ∀ k, k < zNf t → parseFieldDescriptor (zT t k).2.2.1 = some (zty t k) := by
  intro t ht
  exact co8 (P := fun t => ∀ k, k < zNf t → parseFieldDescriptor (zT t k).2.2.1 = some (zty t k)) tyX0_ok tyX1_ok tyX2_ok tyX3_ok tyX5_ok tyX6_ok tyX7_ok tyX8_ok ht
theorem znm_ok : ∀ t, t < 8 → ∀ a, a < zNf t → ∀ b, b < zNf t → a ≠ b → (zT t a).2.1 ≠ (zT t b).2.1 := by
  intro t ht
  exact co8 (P := fun t => ∀ a, a < zNf t → ∀ b, b < zNf t → a ≠ b → (zT t a).2.1 ≠ (zT t b).2.1) nmX0 nmX1 nmX2 nmX3 nmX5 nmX6 nmX7 nmX8 ht
/-- the world after one cell has changed -/
theorem zWd.set {D : va_G} {cA : Nat → ClassId} {b0 : Nat} {M M' : zM} {H H1 : Heap} {a t n : Nat} (h : zWd D cA b0 M H) (hk : zK M a = some (t, n)) (hz : H1.size = H.size) (ho : ∀ q : Nat, q ≠ a → H1[q]? = H[q]?) (hK : zK M' = zK M) (hN : zN M' = zN M) (hI : ∀ b, b ≠ a → ∀ k, zI M' b k = zI M b k) (hL : ∀ b, b ≠ a → ∀ k, zL M' b k = zL M b k) (hP : ∀ b, b ≠ a → ∀ k, zP M' b k = zP M b k) (hat : zat D cA M' H1 a t n) : zWd D cA b0 M' H1 := by
  have hv : ∀ ty b, b ≠ a → ∀ k, zval ty M' b k = zval ty M b k := by
    intro ty b hb k
    cases ty <;> simp only [zval, hI b hb, hL b hb, hP b hb]
  refine ⟨by rw [hz, hN]; exact h.1, fun b t' n' hb => ?_, fun b hb => ?_⟩
  · rw [hK] at hb
    by_cases e : b = a
    · subst e
      rw [hk] at hb
      cases hb
      exact ⟨(h.2.1 b t n hk).1, (h.2.1 b t n hk).2.1, hat⟩
    · obtain ⟨g1, g2, g3⟩ := h.2.1 b t' n' hb
      refine ⟨g1, g2, ?_⟩
      unfold zat at g3 ⊢
      by_cases e8 : t' < 8
      · rw [if_pos e8] at g3 ⊢
        exact (g3.kept (ho b e)).to (fun k _ => (hv _ b e k).symm)
      · rw [if_neg e8] at g3 ⊢
        rw [ho b e, g3]
        congr 2
        funext k
        exact (hv _ b e k).symm
  · rw [hN] at hb
    obtain ⟨f1, f2, f3, f4⟩ := h.2.2 b hb
    have e : b ≠ a := by
      rintro rfl
      rw [hk] at f1
      cases f1
    exact ⟨by rw [hK]; exact f1, fun k => (hI b e k).trans (f2 k), fun k => (hL b e k).trans (f3 k), fun k => (hP b e k).trans (f4 k)⟩
theorem zval_wI {ty : FieldType} {M : zM} {a k : Nat} {x : Int32} (h : zval ty M a k = .int (zI M a k)) : ∀ j, zval ty (zwI M a k x) a j = updV (fun j => zval ty M a j) k (.int x) j := by
  intro j
  by_cases e : j = k
  · subst e
    cases ty <;> simp [zval, zwI, updV, zI, zL, zP, va_rf] at h ⊢
    all_goals (first | (revert h; split <;> simp) | skip)
  · cases ty <;> simp [zval, zwI, updV, zI, zL, zP, e]
theorem zval_wL {M : zM} {a k : Nat} {x : Int64} : ∀ j, zval .long (zwL M a k x) a j = updV (fun j => zval .long M a j) k (.long x) j := by
  intro j
  by_cases e : j = k <;> simp [zval, zwL, updV, zL, e]
theorem zval_wD {M : zM} {a k : Nat} {x : UInt64} : ∀ j, zval .double (zwL M a k x.toInt64) a j = updV (fun j => zval .double M a j) k (.double x) j := by
  intro j
  by_cases e : j = k <;> simp [zval, zwL, updV, zL, e]
