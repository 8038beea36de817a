/-! The machine's locals beside the row of known ones; and the straight instructions of locals. -/
theorem zset_len : ∀ (ls : zLs) (k : Nat) (v : Option zV), (zset ls k v).length = ls.length
  | [], _, _ => rfl
  | _ :: _, 0, _ => rfl
  | _ :: t, k + 1, v => congrArg (· + 1) (zset_len t k v)
theorem zget_set : ∀ (ls : zLs) (k : Nat) (v : Option zV) (i : Nat), zget (zset ls k v) i = if i = k ∧ k < ls.length then v else zget ls i
  | [], k, v, i => by simp [zset, zget]
  | a :: t, 0, v, 0 => by simp [zset, zget]
  | a :: t, 0, v, i + 1 => by simp [zset, zget]
  | a :: t, k + 1, v, 0 => by simp [zset, zget]
  | a :: t, k + 1, v, i + 1 => by simp [zset, zget, zget_set t k v i]
theorem zget_lt : ∀ {ls : zLs} {i : Nat} {v : zV}, zget ls i = some v → i < ls.length
  | [], _, _, h => by simp [zget] at h
  | _ :: _, 0, _, _ => by simp
  | _ :: t, i + 1, v, h => by
    have := zget_lt (ls := t) (i := i) (v := v) h
    simp
    omega
theorem zforce_eq {α : Type} : ∀ (l : zLs) (f : zLs → α), zforce l f = f l
  | [], _ => rfl
  | _ :: t, f => by rw [zforce, zforce_eq t]
theorem zv_cat (v : zV) : (zv v).category = bif zc2 v then 2 else 1 := by
  obtain x | x | x | x | x := v
  · rfl
  · rfl
  · cases x <;> rfl
  · rfl
  · rfl
theorem zcut_len (ls : zLs) (k : Nat) : (zcut ls k).length = ls.length := by
  cases k with
  | zero => rfl
  | succ k =>
    simp only [zcut]
    cases zget ls k with
    | none => rfl
    | some w =>
      dsimp only
      cases zc2 w
      · rfl
      · exact zset_len _ _ _
theorem zcut_get {ls : zLs} {k i : Nat} {w : zV} (h : zget (zcut ls k) i = some w) : zget ls i = some w ∧ ¬ (i + 1 = k ∧ zc2 w = true) := by
  cases k with
  | zero => exact ⟨h, fun q => by omega⟩
  | succ k =>
    simp only [zcut] at h
    cases hu : zget ls k with
    | none =>
      rw [hu] at h
      refine ⟨h, fun q => ?_⟩
      obtain rfl : i = k := by omega
      have h' : zget ls i = some w := h
      rw [hu] at h'
      cases h'
    | some u =>
      rw [hu] at h
      dsimp only at h
      cases hc : zc2 u
      · rw [hc] at h
        refine ⟨h, fun q => ?_⟩
        obtain rfl : i = k := by omega
        have h' : zget ls i = some w := h
        rw [hu] at h'
        cases h'
        rw [hc] at q
        exact absurd q.2 (by simp)
      · rw [hc] at h
        simp only [cond_true, zget_set] at h
        split at h
        · cases h
        · rename_i hn
          refine ⟨h, fun q => ?_⟩
          obtain rfl : i = k := by omega
          exact hn ⟨rfl, zget_lt hu⟩
theorem zst_len (k : Nat) (v : zV) (ls : zLs) : (zst k v ls).length = ls.length := by
  unfold zst
  cases zc2 v <;> simp [zset_len, zcut_len]
theorem zst_get {ls : zLs} {k i : Nat} {v w : zV} (hk : k < ls.length) (h : zget (zst k v ls) i = some w) : (i = k ∧ w = v) ∨ (i ≠ k ∧ (zc2 v = true → i ≠ k + 1) ∧ zget ls i = some w ∧ ¬ (i + 1 = k ∧ zc2 w = true)) := by
  unfold zst at h
  cases hc : zc2 v
  · rw [hc] at h
    simp only [cond_false, zget_set, zcut_len] at h
    by_cases e : i = k
    · rw [if_pos ⟨e, hk⟩] at h
      exact Or.inl ⟨e, (Option.some.inj h).symm⟩
    · rw [if_neg (fun q => e q.1)] at h
      exact Or.inr ⟨e, fun q => (by cases q), zcut_get h⟩
  · rw [hc] at h
    simp only [cond_true, zget_set, zset_len, zcut_len] at h
    split at h
    · cases h
    · rename_i e1
      by_cases e : i = k
      · rw [if_pos ⟨e, hk⟩] at h
        exact Or.inl ⟨e, (Option.some.inj h).symm⟩
      · rw [if_neg (fun q => e q.1)] at h
        refine Or.inr ⟨e, fun _ q => e1 ⟨q, ?_⟩, zcut_get h⟩
        have := zget_lt (zcut_get h).1
        omega
/-- the machine's locals hold what is known of them -/
def zh (L : Array Slot) (ls : zLs) : Prop := L.size = ls.length ∧ lv_wf L ∧ ∀ i v, zget ls i = some v → L[i]? = some (.val (zv v))
theorem zh.less {L : Array Slot} {ls ls' : zLs} (h : zh L ls) (hl : zle ls' ls) : zh L ls' := ⟨h.1.trans hl.1.symm, h.2.1, fun i v q => h.2.2 i v (hl.2 i v q)⟩
def zpr : Nat → zLs → List (Nat × Value)
  | _, [] => []
  | i, none :: t => zpr (i + 1) t
  | i, some v :: t => (i, zv v) :: zpr (i + 1) t
theorem zpr_in : ∀ {ls : zLs} {b : Nat} {q : Nat × Value}, q ∈ zpr b ls → ∃ k v, q = (b + k, zv v) ∧ zget ls k = some v
  | [], _, _, h => by cases h
  | none :: t, b, q, h => by
    obtain ⟨k, v, h1, h2⟩ := zpr_in (ls := t) (b := b + 1) h
    exact ⟨k + 1, v, by rw [h1]; congr 1; omega, h2⟩
  | some w :: t, b, q, h => by
    rcases List.mem_cons.mp h with h | h
    · exact ⟨0, w, h, rfl⟩
    · obtain ⟨k, v, h1, h2⟩ := zpr_in (ls := t) (b := b + 1) h
      exact ⟨k + 1, v, by rw [h1]; congr 1; omega, h2⟩
theorem zpr_of : ∀ {ls : zLs} {b k : Nat} {v : zV}, zget ls k = some v → (b + k, zv v) ∈ zpr b ls
  | [], _, _, _, h => by simp [zget] at h
  | none :: t, b, 0, v, h => by simp [zget] at h
  | none :: t, b, k + 1, v, h => by
    have := zpr_of (ls := t) (b := b + 1) (k := k) (v := v) h
    rw [show b + 1 + k = b + (k + 1) by omega] at this
    exact this
  | some w :: t, b, 0, v, h => by
    cases h
    exact List.mem_cons_self
  | some w :: t, b, k + 1, v, h => by
    have := zpr_of (ls := t) (b := b + 1) (k := k) (v := v) h
    rw [show b + 1 + k = b + (k + 1) by omega] at this
    exact List.mem_cons_of_mem _ this
theorem zh.has {L : Array Slot} {ls : zLs} (h : zh L ls) : lv_has L ls.length (zpr 0 ls) := by
  refine ⟨h.1, h.2.1, fun q hq => ?_⟩
  obtain ⟨k, v, rfl, h2⟩ := zpr_in hq
  rw [Nat.zero_add]
  exact h.2.2 k v h2
theorem zh.st1 {L L' : Array Slot} {ls : zLs} {k : Nat} {v : zV} (hk : k < ls.length) (hc : zc2 v = false) (h : lv_has L' ls.length ((k, zv v) :: (zpr 0 ls).filter (fun q => !(q.1 == k) && !(q.1 + 1 == k && q.2.category == 2)))) : zh L' (zst k v ls) := by
  refine ⟨by rw [zst_len]; exact h.1, h.2.1, fun i w hw => ?_⟩
  rcases zst_get hk hw with ⟨rfl, rfl⟩ | ⟨h1, -, h3, h4⟩
  · exact h.2.2 (i, zv w) List.mem_cons_self
  · refine h.2.2 (i, zv w) (List.mem_cons_of_mem _ (List.mem_filter.mpr ⟨?_, ?_⟩))
    · have := zpr_of (b := 0) h3
      rw [Nat.zero_add] at this
      exact this
    · have h5 : (zv w).category = bif zc2 w then 2 else 1 := zv_cat w
      cases hw2 : zc2 w
      · rw [hw2] at h5
        simp [h1, h5]
      · rw [hw2] at h5 h4
        have : ¬ i + 1 = k := fun q => h4 ⟨q, rfl⟩
        simp [h1, this]
theorem zh.st2 {L L' : Array Slot} {ls : zLs} {k : Nat} {v : zV} (hk : k < ls.length) (hc : zc2 v = true) (h : lv_has L' ls.length ((k, zv v) :: (zpr 0 ls).filter (fun q => !(q.1 == k) && (!(q.1 == k + 1) && !(q.1 + 1 == k && q.2.category == 2))))) : zh L' (zst k v ls) := by
  refine ⟨by rw [zst_len]; exact h.1, h.2.1, fun i w hw => ?_⟩
  rcases zst_get hk hw with ⟨rfl, rfl⟩ | ⟨h1, h2, h3, h4⟩
  · exact h.2.2 (i, zv w) List.mem_cons_self
  · refine h.2.2 (i, zv w) (List.mem_cons_of_mem _ (List.mem_filter.mpr ⟨?_, ?_⟩))
    · have := zpr_of (b := 0) h3
      rw [Nat.zero_add] at this
      exact this
    · have h5 : (zv w).category = bif zc2 w then 2 else 1 := zv_cat w
      have h6 := h2 hc
      cases hw2 : zc2 w
      · rw [hw2] at h5
        simp [h1, h6, h5]
      · rw [hw2] at h5 h4
        have : ¬ i + 1 = k := fun q => h4 ⟨q, rfl⟩
        simp [h1, h6, this]
section ZLOC
variable {p : Program} {l : Launch} {e : Env} {R : Room} {s : State} {m : MethodId} {args : Array Value} {below : List Frame} {meth : Method} {c : Code} {H : Heap} {locs : List Loc} {cells slots : Nat} {Q : State → Prop}
variable {cc : ByteArray} {pc : Nat} {L : Array Slot} {rest : List Value}
theorem z_aload (hexec : p.tables.exec = Jvm.exec) (hb : c.code = cc) {k : Nat} {r : Option Nat} (hdg : decode cc pc = .ok (.aload k, 2)) (hl : L[k]? = some (.val (va_rf r))) (kk : W p l e R s m args below meth c H locs cells slots Q (F0 m (pc + 2) L (va_rf r :: rest))) : W p l e R s m args below meth c H locs cells slots Q (F0 m pc L rest) := by
  cases r with
  | some x => exact lv_aload hexec hb hdg hl kk
  | none =>
    intro T hT X
    obtain ⟨t, a, b⟩ := kk T hT X
    refine ⟨t, ?_, b⟩
    have hl' : L[k]? = some (.val .null) := hl
    jvm_step X.here [X.here.top, hexec, hb, hdg, hl', Value.isRef]
    exact a
theorem z_aload_n (hexec : p.tables.exec = Jvm.exec) (hb : c.code = cc) {j : Fin 4} {k : Nat} {r : Option Nat} (hdg : decode cc pc = .ok (.aload_n j, 1)) (hj : (j : Nat) = k) (hl : L[k]? = some (.val (va_rf r))) (kk : W p l e R s m args below meth c H locs cells slots Q (F0 m (pc + 1) L (va_rf r :: rest))) : W p l e R s m args below meth c H locs cells slots Q (F0 m pc L rest) := by
  cases r with
  | some x => exact lv_aload_n hexec hb hdg hj hl kk
  | none =>
    subst hj
    intro T hT X
    obtain ⟨t, a, b⟩ := kk T hT X
    refine ⟨t, ?_, b⟩
    have hl' : L[(j : Nat)]? = some (.val .null) := hl
    jvm_step X.here [X.here.top, hexec, hb, hdg, hl', Value.isRef]
    exact a
theorem z_astore (hexec : p.tables.exec = Jvm.exec) (hb : c.code = cc) {k : Nat} {ls : zLs} {r : Option Nat} (hdg : decode cc pc = .ok (.astore k, 2)) (h : zh L ls) (hn : k < ls.length) (kk : ∀ L', zh L' (zst k (zr r) ls) → W p l e R s m args below meth c H locs cells slots Q (F0 m (pc + 2) L' rest)) : W p l e R s m args below meth c H locs cells slots Q (F0 m pc L (va_rf r :: rest)) := by
  cases r with
  | some x => exact lv_astore hexec hb hdg h.has hn rfl fun L' h' => kk L' (zh.st1 (L := L) hn rfl h')
  | none =>
    obtain ⟨L', e', h'⟩ := lv_store1 (v := .null) h.has hn rfl
    intro T hT X
    obtain ⟨t, a, b⟩ := kk L' (zh.st1 (L := L) hn rfl h') T hT X
    refine ⟨t, ?_, b⟩
    jvm_step X.here [X.here.top, ↓top_set X.here.top, hexec, hb, hdg, e', va_rf, Value.isRef]
    exact a
theorem z_astore_n (hexec : p.tables.exec = Jvm.exec) (hb : c.code = cc) {j : Fin 4} {k : Nat} {ls : zLs} {r : Option Nat} (hdg : decode cc pc = .ok (.astore_n j, 1)) (hj : (j : Nat) = k) (h : zh L ls) (hn : k < ls.length) (kk : ∀ L', zh L' (zst k (zr r) ls) → W p l e R s m args below meth c H locs cells slots Q (F0 m (pc + 1) L' rest)) : W p l e R s m args below meth c H locs cells slots Q (F0 m pc L (va_rf r :: rest)) := by
  cases r with
  | some x => exact lv_astore_n hexec hb hdg hj h.has hn rfl fun L' h' => kk L' (zh.st1 (L := L) hn rfl h')
  | none =>
    subst hj
    obtain ⟨L', e', h'⟩ := lv_store1 (v := .null) h.has hn rfl
    intro T hT X
    obtain ⟨t, a, b⟩ := kk L' (zh.st1 (L := L) hn rfl h') T hT X
    refine ⟨t, ?_, b⟩
    jvm_step X.here [X.here.top, ↓top_set X.here.top, hexec, hb, hdg, e', va_rf, Value.isRef]
    exact a
theorem z_iinc (hexec : p.tables.exec = Jvm.exec) (hb : c.code = cc) {k : Nat} {n : Int} {x : Int32} {ls : zLs} (hdg : decode cc pc = .ok (.iinc k n, 3)) (h : zh L ls) (hk : zget ls k = some (zi x)) (kk : ∀ L', zh L' (zst k (zi (x + Int32.ofInt n)) ls) → W p l e R s m args below meth c H locs cells slots Q (F0 m (pc + 3) L' rest)) : W p l e R s m args below meth c H locs cells slots Q (F0 m pc L rest) := by
  have hn := zget_lt hk
  have hin := zpr_of (b := 0) hk
  obtain ⟨j, hj, ej⟩ := List.getElem_of_mem hin
  refine lv_iinc hexec hb hdg h.has (k := j) (x := x) ?_ rfl hn rfl fun L' h' => kk L' (zh.st1 (L := L) (v := zi (x + Int32.ofInt n)) hn rfl h')
  rw [List.getElem?_eq_getElem hj, ej, Nat.zero_add]
  rfl
end ZLOC
