/-! Arrays of arrays at once: 'multianewarray' (follows the proofs of Shelf42/MA1 and MA2, for any depth). -/
/-- what a making keeps -/
def zkeeps (f : zM → zM) : Prop := ∀ M, zN M < zN (f M) ∧ ∀ b, b < zN M → zK (f M) b = zK M b
theorem zkeeps_new (t n : Nat) : zkeeps (fun M => znew M t n) := fun M => ⟨Nat.lt_succ_self _, fun b hb => by simp [zK, znew, Nat.ne_of_lt hb]⟩
theorem zmaR_facts {f : zM → zM} (hf : zkeeps f) (M : zM) (t n : Nat) : ∀ i, zN M < zN (zmaR f M t n i) ∧ (∀ b, b < zN M → zK (zmaR f M t n i) b = zK M b) ∧ zK (zmaR f M t n i) (zN M) = some (t, n)
  | 0 => ⟨Nat.lt_succ_self _, (zkeeps_new t n M).2, by simp [zmaR, zK, znew]⟩
  | i + 1 => by
    obtain ⟨h1, h2, h3⟩ := zmaR_facts hf M t n i
    obtain ⟨g1, g2⟩ := hf (zmaR f M t n i)
    exact ⟨Nat.lt_trans h1 g1, fun b hb => (g2 b (Nat.lt_trans hb h1)).trans (h2 b hb), (g2 _ h1).trans h3⟩
theorem zmaR_keeps {f : zM → zM} (hf : zkeeps f) (t n : Nat) : zkeeps (fun M => zmaR f M t n n) := fun M => ⟨(zmaR_facts hf M t n n).1, (zmaR_facts hf M t n n).2.1⟩
section ZMA
variable {p : Program} {l : Launch} {e : Env} {R : Room} {s : State} {m : MethodId} {args : Array Value} {below : List Frame} {meth : Method} {c : Code} {Q : State → Prop} {D : va_G} {cA : Nat → ClassId} {b0 : Nat} {H0 : Heap}
def zMk (p : Program) (l : Launch) (e : Env) (R : Room) (s : State) (m : MethodId) (args : Array Value) (below : List Frame) (meth : Method) (c : Code) (D : va_G) (cA : Nat → ClassId) (b0 : Nat) (H0 : Heap) (g : JFrame) (vm1 : Vm) (cells slots : Nat) (M : zM) (S : State) : Prop :=
  ∃ (T : State) (locs : List Loc), S = T.setTop g ∧ Stand p l e R s m args below meth c T locs cells slots ∧ zWd D cA b0 M T.heap ∧ va_S (fun q => b0 ≤ q) H0 T.heap locs ∧ T.vm = vm1 ∧ b0 ≤ T.heap.size
/-- 'make C counts' makes f: k objects, n slots -/
def zMaker (p : Program) (l : Launch) (e : Env) (R : Room) (s : State) (m : MethodId) (args : Array Value) (below : List Frame) (meth : Method) (c : Code) (D : va_G) (cA : Nat → ClassId) (b0 : Nat) (H0 : Heap) (g : JFrame) (vm1 : Vm) (C : ClassId) (counts : List Int32) (k n : Nat) (f : zM → zM) (F : zM → State → State) : Prop :=
  ∀ (M : zM) (S : State) (cells slots : Nat), zMk p l e R s m args below meth c D cA b0 H0 g vm1 cells slots M S → cells + k ≤ R.cells → slots + n ≤ R.slots →
    zMk p l e R s m args below meth c D cA b0 H0 g vm1 (cells + k) (slots + n) (f M) (F M S) ∧
    ∀ (E : CtlPost) (d : Bool) (acts : List Action) (Qp : Addr → Pre), (∀ d' acts', Qp (zN M) d' acts' (F M S)) → wp (multianewarray.make C counts) Qp E e d acts S
variable {g : JFrame} {vm1 : Vm}
theorem z_newArray {E : CtlPost} {d : Bool} {acts : List Action} {S : State} {C comp : ClassId} {k : Class} {ty : FieldType} {len : Nat} {init : Value} (hk : S.vm.classes[C]? = some k) (hkind : k.kind = .array comp ty)
    (hlimit : ¬ len > e.platform.arrayLengthLimit) (hheap : ¬ len * componentBytes ty > e.platform.maxHeapBytes) (hfit : fits ty init = true) (hdef : init.isDefault = true) {Qp : Addr → Pre}
    (h1 : S.heap.size < e.platform.maxCells) (h2 : S.slotsUsed + len ≤ e.platform.maxSlots) (hq : Qp S.heap.size d acts (S.pushCell { cls := C, slots := Array.replicate len init, vm := .none })) :
    wp (Jvm.newArray C len init) Qp E e d acts S := by
  have hfits : ∀ i v, (Array.replicate len init)[i]? = some v → S.fitsSlot C .none i v = true := by
    intro i v hv
    simp only [Array.getElem?_replicate] at hv
    split at hv
    · cases hv
      simp [State.fitsSlot, State.slotType?, hk, hkind, hfit]
    · cases hv
  have hda : allocActs (Array.replicate len init) S.heap.size acts = acts := by
    have hall : ((Array.replicate len init).all (·.isDefault)) = true := by
      rw [Array.all_replicate]
      split <;> simp [hdef]
    unfold allocActs
    rw [if_pos hall]
  simp only [Jvm.newArray, Jvm.arrayFits, wp_bind', W.ask, W.ite, hlimit, if_false, wp_pure', W.theClass, hk, hkind, hheap, W.alloc, W.stop, Option.some.injEq, exists_eq_left', Array.size_replicate, hda]
  rw [if_neg (by omega)]
  exact ⟨h1, h2, hfits, hq⟩
theorem z_pushed (t n : Nat) (v : Value) (ht : t < 10) (hv : v = defaultValue (zel t)) {M : zM} {S : State} {cells slots : Nat} (h : zMk p l e R s m args below meth c D cA b0 H0 g vm1 cells slots M S) :
    S.heap.size = zN M ∧ zMk p l e R s m args below meth c D cA b0 H0 g vm1 (cells + 1) (slots + n) (znew M (20 + t) n) (S.pushCell { cls := cA t, slots := Array.replicate n v, vm := .none }) := by
  obtain ⟨T, locs, rfl, X, hW, hS, hvm, hb0⟩ := h
  refine ⟨hW.1, T.pushCell { cls := cA t, slots := Array.replicate n v, vm := .none }, locs, rfl, ?_, ?_, ?_, hvm, ?_⟩
  · have X1 := X.pushed { cls := cA t, slots := Array.replicate n v, vm := .none }
    simp only [Array.size_replicate] at X1
    exact X1
  · refine hW.push hb0 (Or.inr ⟨by omega, by omega⟩) (by simp [State.pushCell]) (fun q hq => State.heap_pushCell_of_lt _ _ hq) ?_
    unfold zat
    rw [if_neg (by omega), if_neg (by omega), show 20 + t - 20 = t by omega]
    have e1 : (T.pushCell { cls := cA t, slots := Array.replicate n v, vm := .none }).heap[T.heap.size]? = some { cls := cA t, slots := Array.replicate n v, vm := .none } := State.heap_pushCell_size _ _
    rw [← hW.1, e1, arrV_new]
    congr 2
    funext k
    rw [hv]
    exact z_def (M := M) ht (hW.2.2 _ (Nat.le_of_eq hW.1.symm)) k
  · exact hS.grow (by simp [State.pushCell]) (fun q hq => State.heap_pushCell_of_lt _ _ hq)
  · simp [State.pushCell]
    omega
theorem z_lim {T : State} {locs : List Loc} {cells slots : Nat} (X : Stand p l e R s m args below meth c T locs cells slots) {n : Nat} (hn : n ≤ 1000) (ty : FieldType) : ¬ n > e.platform.arrayLengthLimit ∧ ¬ n * componentBytes ty > e.platform.maxHeapBytes := by
  refine ⟨by rw [Launch.admits_arrayLengthLimit X.admits]; omega, ?_⟩
  rw [Launch.admits_maxHeapBytes X.admits]
  have : componentBytes ty ≤ 8 := by cases ty <;> simp [componentBytes]
  have h2 := Nat.mul_le_mul hn this
  omega
theorem z_maker1 (hal : s.vm.Alike vm1) (hK : zKn D cA s) {t : Nat} (ht : t = 0 ∨ t = 2) {x : Int32} (hx : ¬ x < 0) (hx2 : x.toNatClampNeg ≤ 1000) :
    zMaker p l e R s m args below meth c D cA b0 H0 g vm1 (cA t) [x] 1 x.toNatClampNeg (zma1 t x.toNatClampNeg) (fun _ S => S.pushCell { cls := cA t, slots := Array.replicate x.toNatClampNeg (defaultValue (zel t)), vm := .none }) := by
  intro M S cells slots hM hc hs
  obtain ⟨e1, hP⟩ := z_pushed t x.toNatClampNeg (defaultValue (zel t)) (by omega) rfl hM
  refine ⟨hP, fun E d acts Qp hq => ?_⟩
  obtain ⟨T, locs, rfl, X, hW, hS, hvm, hb0⟩ := hM
  obtain ⟨hr1, hr2⟩ := X.roomAbove hc hs
  obtain ⟨-, k0, hk0, comp, hkind⟩ := (hK.2.1 t (by omega)).1 0 (fun _ => .null)
  have hk0' : s.vm.classes[cA t]? = some k0 := hk0
  obtain ⟨k, hk, ek⟩ := hal.2.2 _ _ hk0'
  have hkk : (T.setTop g).vm.classes[cA t]? = some k := by
    show T.vm.classes[cA t]? = some k
    rw [hvm]
    exact hk
  have hkd : k.kind = .array comp (zel t) := by rw [ek]; exact hkind
  obtain ⟨l1, l2⟩ := z_lim X hx2 (zel t)
  rw [multianewarray.make]
  simp only [wp_bind', W.ite, hx, if_false, wp_pure', W.theClass, hkk, hkd, Option.some.injEq, exists_eq_left']
  refine z_newArray hkk hkd l1 l2 (by rcases ht with rfl | rfl <;> rfl) (by rcases ht with rfl | rfl <;> rfl) (by show T.heap.size < _; omega) (by show T.slotsUsed + _ ≤ _; omega) ?_
  rw [e1]
  exact hq d acts
def zFR (cA : Nat → ClassId) (i n : Nat) (f : zM → zM) (F : zM → State → State) (M : zM) (S : State) : Nat → State
  | 0 => S.pushCell { cls := cA i, slots := Array.replicate n .null, vm := .none }
  | j + 1 => (F (zmaR f M (20 + i) n j) (zFR cA i n f F M S j)).setCell (zN M) ((arrV (cA i) n (fun k => zval (zel i) (f (zmaR f M (20 + i) n j)) (zN M) k)).setSlot j (.ref (zN (zmaR f M (20 + i) n j))))
theorem z_elR {i : Nat} (hi : i = 5 ∨ i = 6 ∨ i = 9) : zel i = .array (zel 0) := by rcases hi with rfl | rfl | rfl <;> rfl
theorem z_stored {i n j r : Nat} (hi : i = 5 ∨ i = 6 ∨ i = 9) {M : zM} {a : Nat} {S : State} {cells slots : Nat} (ha : zK M a = some (20 + i, n)) (h : zMk p l e R s m args below meth c D cA b0 H0 g vm1 cells slots M S) :
    zMk p l e R s m args below meth c D cA b0 H0 g vm1 cells slots (zwP M a j (some r)) (S.setCell a ((arrV (cA i) n (fun k => zval (zel i) M a k)).setSlot j (.ref r))) := by
  obtain ⟨T, locs, rfl, X, hW, hS, hvm, hb0⟩ := h
  have hc := z_arr (t := i) hW ha
  have hlt : a < T.heap.size := (Array.getElem?_eq_some_iff.mp hc).1
  have o1 : ∀ q : Nat, q ≠ a → (T.setCell a ((arrV (cA i) n (fun k => zval (zel i) M a k)).setSlot j (.ref r))).heap[q]? = T.heap[q]? := fun q hq => heapAt_setCell_ne _ (Ne.symm hq)
  have z1 : (T.setCell a ((arrV (cA i) n (fun k => zval (zel i) M a k)).setSlot j (.ref r))).heap.size = T.heap.size := by rw [size_setCell]
  refine ⟨T.setCell a ((arrV (cA i) n (fun k => zval (zel i) M a k)).setSlot j (.ref r)), locs ++ [⟨a, j⟩], rfl, X.stored hc j (.ref r), ?_, hS.put z1 o1 (hW.own ha), hvm, by rw [z1]; exact hb0⟩
  refine z_arrW (t := i) hW ha z1 o1 rfl rfl (fun b hb k => rfl) (fun b hb k => rfl) (fun b hb k => by simp [zP, zwP, hb]) ?_
  rw [heapAt_setCell_self _ hlt, arrV_store]
  congr 2
  funext k
  rcases hi with rfl | rfl | rfl <;> (by_cases ek : k = j <;> simp [updV, zel, zval, zP, zwP, ek, va_rf])
theorem z_makerR (hal : s.vm.Alike vm1) {i j : Nat} (hi : i = 5 ∨ i = 6 ∨ i = 9) (hN : zNs cA s i j) {x : Int32} (hx : ¬ x < 0) (hx2 : x.toNatClampNeg ≤ 1000) {rest : List Int32} (hr : rest ≠ []) (hr0 : rest.find? (· < 0) = none) {k n : Nat} {f : zM → zM} {F : zM → State → State} (hf : zkeeps f)
    (hin : zMaker p l e R s m args below meth c D cA b0 H0 g vm1 (cA j) rest k n f F) :
    zMaker p l e R s m args below meth c D cA b0 H0 g vm1 (cA i) (x :: rest) (1 + x.toNatClampNeg * k) (x.toNatClampNeg + x.toNatClampNeg * n) (fun M => zmaR f M (20 + i) x.toNatClampNeg x.toNatClampNeg) (fun M S => zFR cA i x.toNatClampNeg f F M S x.toNatClampNeg) := by
  intro M S cells slots hM hc hs
  generalize hX : x.toNatClampNeg = N at *
  obtain ⟨e1, hP⟩ := z_pushed i N .null (by omega) (by rcases hi with rfl | rfl | rfl <;> rfl) hM
  have hmul : ∀ q u, q < N → q * u + u ≤ N * u := fun q u hq => by
    have := Nat.mul_le_mul_right u (show q + 1 ≤ N from hq)
    rw [Nat.succ_mul] at this
    exact this
  have steps : ∀ q, q ≤ N → zMk p l e R s m args below meth c D cA b0 H0 g vm1 (cells + (1 + q * k)) (slots + (N + q * n)) (zmaR f M (20 + i) N q) (zFR cA i N f F M S q) := by
    intro q
    induction q with
    | zero =>
      intro _
      rw [Nat.zero_mul, Nat.zero_mul, Nat.add_zero, Nat.add_zero]
      exact hP
    | succ q ih =>
      intro hq
      have h1 := hmul q k hq
      have h2 := hmul q n hq
      obtain ⟨f1, f2, f3⟩ := zmaR_facts hf M (20 + i) N q
      obtain ⟨g1, -⟩ := hin _ _ _ _ (ih (by omega)) (by omega) (by omega)
      have ha : zK (f (zmaR f M (20 + i) N q)) (zN M) = some (20 + i, N) := ((hf _).2 _ f1).trans f3
      have g2 := z_stored (j := q) (r := zN (zmaR f M (20 + i) N q)) hi ha g1
      rw [show cells + (1 + (q + 1) * k) = cells + (1 + q * k) + k by rw [Nat.succ_mul]; omega, show slots + (N + (q + 1) * n) = slots + (N + q * n) + n by rw [Nat.succ_mul]; omega]
      exact g2
  refine ⟨steps N (Nat.le_refl _), fun E d acts Qp hq => ?_⟩
  obtain ⟨k0, hk0, hkind0⟩ := hN
  obtain ⟨kc, hkc, ek⟩ := hal.2.2 _ _ hk0
  have hkd : kc.kind = .array (cA j) (zel i) := by rw [ek]; exact hkind0
  have hvmS : ∀ {cl sl : Nat} {M' : zM} {S' : State}, zMk p l e R s m args below meth c D cA b0 H0 g vm1 cl sl M' S' → S'.vm.classes[cA i]? = some kc := by
    rintro cl sl M' S' ⟨T, locs, rfl, X, hW, hS, hvm, hb0⟩
    show T.vm.classes[cA i]? = some kc
    rw [hvm]
    exact hkc
  have hkk := hvmS hM
  have hroom : S.heap.size + (1 + N * k) ≤ e.platform.maxCells ∧ S.slotsUsed + (N + N * n) ≤ e.platform.maxSlots := by
    obtain ⟨T, locs, rfl, X, hW, hS, hvm, hb0⟩ := hM
    exact X.roomAbove hc hs
  have hlim : ¬ N > e.platform.arrayLengthLimit ∧ ¬ N * componentBytes (zel i) > e.platform.maxHeapBytes := by
    obtain ⟨T, locs, rfl, X, hW, hS, hvm, hb0⟩ := hM
    exact z_lim X hx2 (zel i)
  obtain ⟨r0, rs, rfl⟩ : ∃ r0 rs, rest = r0 :: rs := by
    cases rest with
    | nil => exact absurd rfl hr
    | cons a b => exact ⟨a, b, rfl⟩
  rw [multianewarray.make]
  simp only [wp_bind', W.ite, hx, if_false, wp_pure', W.theClass, hkk, hkd, Option.some.injEq, exists_eq_left', hX]
  refine z_newArray hkk hkd hlim.1 hlim.2 (by rcases hi with rfl | rfl | rfl <;> rfl) rfl (by omega) (by omega) ?_
  simp only [hr0]
  rw [ite_self, wp_bind', Std.Legacy.Range.forIn_eq_forIn_range']
  have hsz : ([:N] : Std.Legacy.Range).size = N := by simp [Std.Legacy.Range.size]
  rw [hsz]
  show wp (forIn (List.range' 0 N 1) PUnit.unit _) _ E e d acts _
  refine wp_forIn_inv (fun rest' s' => ∃ q, q ≤ N ∧ rest' = List.range' q (N - q) ∧ s' = zFR cA i N f F M S q) _ _ ⟨0, Nat.zero_le _, rfl, rfl⟩ ?_ ?_
  · rintro y rest' s' d' acts' Q' ⟨q, hqN, hl, rfl⟩ hnext
    have hlt : q < N := by
      rcases Nat.lt_or_ge q N with h | h
      · exact h
      · rw [show N - q = 0 from by omega] at hl
        simp at hl
    obtain ⟨rfl, hrest⟩ : y = q ∧ rest' = List.range' (q + 1) (N - (q + 1)) := by
      rw [show N - q = (N - (q + 1)) + 1 from by omega, List.range'_succ] at hl
      exact ⟨(List.cons.inj hl).1, (List.cons.inj hl).2⟩
    have h1 := hmul y k hlt
    have h2 := hmul y n hlt
    obtain ⟨f1, f2, f3⟩ := zmaR_facts hf M (20 + i) N y
    obtain ⟨g1, gw⟩ := hin _ _ _ _ (steps y hqN) (by omega) (by omega)
    have ha : zK (f (zmaR f M (20 + i) N y)) (zN M) = some (20 + i, N) := ((hf _).2 _ f1).trans f3
    have hk2 := hvmS g1
    have hcell : (F (zmaR f M (20 + i) N y) (zFR cA i N f F M S y)).heap[zN M]? = some (arrV (cA i) N (fun k => zval (zel i) (f (zmaR f M (20 + i) N y)) (zN M) k)) := by
      obtain ⟨T, locs, e2, X, hW, hS, hvm, hb0⟩ := g1
      rw [e2]
      exact z_arr (t := i) hW ha
    simp only [wp_bind']
    refine gw _ _ _ _ fun d2 acts2 => ?_
    simp only [wp_bind', W.writeLoc, wp_pure']
    refine ⟨_, by rw [e1]; exact hcell, fun h => (by cases h), by rw [arrV_size]; exact hlt, ?_, hnext _ _ _ ⟨y + 1, hlt, hrest, ?_⟩⟩
    · rcases hi with rfl | rfl | rfl <;> simp [State.fitsSlot, State.slotType?, arrV, hk2, hkd, zel, fits, FieldType.isReference]
    · rw [e1]
      rfl
  · rintro s' d' acts' ⟨q, hqN, hl, rfl⟩
    have hiN : q = N := by
      rcases Nat.lt_or_ge q N with h | h
      · rw [show N - q = (N - (q + 1)) + 1 from by omega, List.range'_succ] at hl
        cases hl
      · omega
    subst hiN
    simp only [wp_pure']
    rw [e1]
    exact hq _ _
end ZMA
