/-! zW is sound: what it says of a method from a place, the machine does. -/
theorem zXw_kind : ∀ w ∈ zXw, (∃ x, w = .declares x) ∨ ∃ C T, w = .castable C T := by
  intro w hw
  simp only [zXw, List.mem_cons, List.not_mem_nil, or_false] at hw
  rcases hw with rfl | rfl | rfl | rfl | rfl | rfl | rfl | rfl | rfl | rfl <;> first | exact Or.inl ⟨_, rfl⟩ | exact Or.inr ⟨_, _, rfl⟩
/-- what the class tables say, beside the words -/
def zEv (D : va_G) (cA : Nat → ClassId) (U : State) : Prop := zKn D cA U ∧ (∀ w ∈ zXw, va_Nw w U) ∧ (va_AO "TurnFace$Puzzle" U ∧ va_AO "TurnFace$Round" U) ∧ (∀ i, i < 34 → ∃ a, vk_R (zown (zthm i).1) (zthr i).2.2.1 (ztxt i) a U) ∧ ∀ a b, a < 5 → b < 5 → a ≠ b → va_Nc (zexn a) (zexn b) U
theorem zEv.warm {D : va_G} {cA : Nat → ClassId} {s U : State} (hW : s.WarmedH U.vm) (h : zEv D cA s) : zEv D cA U := by
  refine ⟨h.1.moved hW.alike, fun w hw => ?_, ⟨va_AO.moved hW.alike h.2.2.1.1, va_AO.moved hW.alike h.2.2.1.2⟩, fun i hi => ?_, fun a b ha hb hab => va_Nc.moved hW.alike (h.2.2.2.2 a b ha hb hab)⟩
  · rcases zXw_kind w hw with ⟨x, rfl⟩ | ⟨C, T, rfl⟩
    · exact va_Nw.warmD hW (h.2.1 _ hw)
    · exact va_Nw.warmC hW (h.2.1 _ hw)
  · obtain ⟨a, ha⟩ := h.2.2.2.1 i hi
    exact ⟨a, vk_R.warm hW ha⟩
theorem zXw_use {D : va_G} {cA : Nat → ClassId} {s : State} {args : Array Value} (h : zEv D cA s) : ∀ w ∈ zXw, w.before args s = true := by
  intro w hw
  have h1 := h.2.1 w hw
  rcases zXw_kind w hw with ⟨x, rfl⟩ | ⟨C, T, rfl⟩
  · exact va_Nw.use rfl h1
  · exact va_Nw.use rfl h1
/-- the two statics that a throw reads -/
def zSt (b0 : Nat) (U : State) (H : Heap) : Prop := vx_Zq Bundle.tN "UNASSIGNED_STACK" Bundle.steD (fun q => b0 ≤ q) U H ∧ vx_Zq Bundle.tN "SUPPRESSED_SENTINEL" Bundle.listD (fun q => b0 ≤ q) U H
theorem zSt.warm {b0 : Nat} {s U : State} {H H1 : Heap} (hW : s.WarmedH U.vm) (hk : ∀ a : Nat, a < H.size → ¬ b0 ≤ a → H1[a]? = H[a]?) (h : zSt b0 s H) : zSt b0 U H1 := ⟨vx_Zq.moved hW.alike (h.1.kept hk), vx_Zq.moved hW.alike (h.2.kept hk)⟩
/-! facts of the tables, method by method -/
theorem zfM {y : Nat} (hy : y < 298) : zword y ∈ zU ∧ Cond.initialized (zown y) ∈ zU ∧ plainName (zname y).cls = true ∧ (zname y).cls = zown y ∧ (zown y ≠ "java/lang/invoke/MethodHandle" ∧ zown y ≠ "java/lang/invoke/VarHandle") ∧ (parseMethodDescriptor (zname y).desc).map (fun d => d.parameters.length) = some (zna y) ∧ zmaxL y ≤ 26 ∧
    (zkd y = 0 → Cond.static (zname y) ∈ zU) ∧ (zkd y = 1 → Cond.instanceMethod (zname y) ∈ zU ∧ Cond.selects (zown y) (zname y) (zname y) ∈ zU ∧ zrc y < 8 ∧ zR (zrc y) = zown y) ∧ (zkd y = 2 → Cond.instanceMethod (zname y) ∈ zU ∧ zrc y < 8 ∧ zR (zrc y) = zown y ∧ (zname y).name = "<init>" ∧ zret y = none) ∧
    (zhs y).map (fun h => (h.1, h.2.1, h.2.2.1)) = (zhh y).map (fun h => (h.1, h.2.1, h.2.2.1)) ∧ ((zhs y).zip (zhh y)).all (fun q => zwd q.1.2.2.2.2 (.classLink (zown y) q.2.2.2.2 (zexn q.1.2.2.2.1)) && Nat.blt q.1.2.2.2.1 5 && decide (q.2.2.2.2 ≠ 0)) = true := by
  have h := zchk_m y hy
  simp only [zchkM, Bool.and_eq_true, decide_eq_true_eq, beq_iff_eq] at h
  obtain ⟨⟨⟨⟨⟨⟨⟨⟨⟨⟨h1, h2⟩, h3⟩, h4⟩, h5⟩, h6⟩, h7⟩, h8⟩, h9⟩, h10⟩, h11⟩ := h
  refine ⟨zwd_in h1, zwd_in h2, h3, h4, ⟨h5, h6⟩, h7, Nat.le_of_ble_eq_true h8, fun e => ?_, fun e => ?_, fun e => ?_, h10, h11⟩
  · rw [e] at h9
    exact zwd_in h9
  · rw [e] at h9
    simp only [Bool.and_eq_true, decide_eq_true_eq] at h9
    exact ⟨zwd_in h9.1.1.1, zwd_in h9.1.1.2, Nat.le_of_ble_eq_true h9.1.2, h9.2⟩
  · rw [e] at h9
    simp only [Bool.and_eq_true, decide_eq_true_eq] at h9
    exact ⟨zwd_in h9.1.1.1.1, Nat.le_of_ble_eq_true h9.1.1.1.2, h9.1.1.2, h9.1.2, h9.2⟩
theorem zhh_kd0 : (List.range' 0 150).all (fun y => Nat.beq (zkd y) 0 || (zhh y).isEmpty) = true := by decide +kernel
theorem zhh_kd1 : (List.range' 150 148).all (fun y => Nat.beq (zkd y) 0 || (zhh y).isEmpty) = true := by decide +kernel
theorem zhh_kd {y : Nat} (hy : y < 298) (hk : zkd y ≠ 0) : zhh y = [] := by
  have key : (Nat.beq (zkd y) 0 || (zhh y).isEmpty) = true := by
    by_cases h : y < 150
    · exact zall_in zhh_kd0 (by omega) (by omega)
    · exact zall_in zhh_kd1 (by omega) (by omega)
  rw [Bool.or_eq_true] at key
  rcases key with h | h
  · exact absurd (Nat.eq_of_beq_eq_true h) hk
  · exact List.isEmpty_iff.mp h
/-- rows of a table of handlers, with the words that they need -/
def zrel (own : String) (args : Array Value) (s : State) : List (Nat × Nat × Nat × Nat × Nat) → List (Nat × Nat × Nat × Nat) → Prop
  | [], [] => True
  | a :: t, b :: u => (a.1 = b.1 ∧ a.2.1 = b.2.1 ∧ a.2.2.1 = b.2.2.1 ∧ a.2.2.2.1 < 5 ∧ b.2.2.2 ≠ 0 ∧ (Cond.classLink own b.2.2.2 (zexn a.2.2.2.1)).before args s = true) ∧ zrel own args s t u
  | _, _ => False
theorem zrel_of {own : String} {args : Array Value} {s : State} (hts : ∀ w ∈ zU, w.before args s = true) : ∀ (t : List (Nat × Nat × Nat × Nat × Nat)) (u : List (Nat × Nat × Nat × Nat)), t.map (fun h => (h.1, h.2.1, h.2.2.1)) = u.map (fun h => (h.1, h.2.1, h.2.2.1)) → (t.zip u).all (fun q => zwd q.1.2.2.2.2 (.classLink own q.2.2.2.2 (zexn q.1.2.2.2.1)) && Nat.blt q.1.2.2.2.1 5 && decide (q.2.2.2.2 ≠ 0)) = true → zrel own args s t u
  | [], [], _, _ => trivial
  | [], _ :: _, h, _ => by simp at h
  | _ :: _, [], h, _ => by simp at h
  | a :: t, b :: u, h, g => by
    simp only [List.map_cons, List.cons.injEq, Prod.mk.injEq] at h
    simp only [List.zip_cons_cons, List.all_cons, Bool.and_eq_true, decide_eq_true_eq] at g
    exact ⟨⟨h.1.1, h.1.2.1, h.1.2.2, Nat.le_of_ble_eq_true g.1.1.2, g.1.2, hts _ (zwd_in g.1.1.1)⟩, zrel_of hts t u h.2 g.2⟩
theorem zcov {pc a b h c : Nat} : covers ⟨a, b, h, c⟩ pc = (Nat.ble a pc && Nat.blt pc b) := by
  show (decide (a ≤ pc) && decide (pc < b)) = _
  have e1 : decide (a ≤ pc) = Nat.ble a pc := by
    cases h : Nat.ble a pc
    · exact decide_eq_false fun q => by rw [Nat.ble_eq_true_of_le q] at h; cases h
    · exact decide_eq_true (Nat.le_of_ble_eq_true h)
  have e2 : decide (pc < b) = Nat.blt pc b := by
    cases h : Nat.blt pc b
    · exact decide_eq_false fun q => by
        have : Nat.ble (pc + 1) b = true := Nat.ble_eq_true_of_le q
        have h' : Nat.ble (pc + 1) b = false := h
        rw [this] at h'
        cases h'
    · exact decide_eq_true (Nat.le_of_ble_eq_true h)
  rw [e1, e2]
theorem zhand_none {own : String} {args : Array Value} {s : State} {pc x : Nat} (hnc : ∀ b, b < 5 → x ≠ b → va_Nc (zexn x) (zexn b) s) : ∀ (t : List (Nat × Nat × Nat × Nat × Nat)) (u : List (Nat × Nat × Nat × Nat)), zrel own args s t u → zhand pc x t = none → ∀ z ∈ tableOf u, covers z pc = false ∨ (z.catchType ≠ 0 ∧ ∃ nm : String, (Cond.classLink own z.catchType nm).before args s = true ∧ va_Nc (zexn x) nm s)
  | [], [], _, _, z, hz => by cases hz
  | [], _ :: _, h, _, _, _ => h.elim
  | _ :: _, [], h, _, _, _ => h.elim
  | (a1, a2, a3, a4, a5) :: t, (b1, b2, b3, b4) :: u, ⟨⟨h1, h2, h3, h4, h5, h6⟩, hr⟩, hn, z, hz => by
    simp only at h1 h2 h3 h4 h5 h6
    subst h1; subst h2; subst h3
    rw [zhand] at hn
    cases hc : (Nat.ble a1 pc && Nat.blt pc a2 && Nat.beq a4 x)
    · rw [hc] at hn
      rcases List.mem_cons.mp hz with rfl | hz
      · cases h9 : (Nat.ble a1 pc && Nat.blt pc a2)
        · exact Or.inl (zcov.trans h9)
        · rw [h9, Bool.true_and] at hc
          refine Or.inr ⟨h5, _, h6, hnc _ h4 fun e => ?_⟩
          rw [e, Nat.beq_refl] at hc
          cases hc
      · exact zhand_none hnc t u hr hn z hz
    · rw [hc] at hn
      cases hn
theorem zhand_some {own : String} {args : Array Value} {s : State} {pc x h : Nat} (hnc : ∀ b, b < 5 → x ≠ b → va_Nc (zexn x) (zexn b) s) : ∀ (t : List (Nat × Nat × Nat × Nat × Nat)) (u : List (Nat × Nat × Nat × Nat)), zrel own args s t u → zhand pc x t = some h → ∃ (pre : List ExceptionTableEntry) (z : ExceptionTableEntry) (suf : List ExceptionTableEntry), tableOf u = pre ++ z :: suf ∧ (∀ z ∈ pre, covers z pc = false ∨ (z.catchType ≠ 0 ∧ ∃ nm : String, (Cond.classLink own z.catchType nm).before args s = true ∧ va_Nc (zexn x) nm s)) ∧ covers z pc = true ∧ z.catchType ≠ 0 ∧ (Cond.classLink own z.catchType (zexn x)).before args s = true ∧ z.handlerPc = h
  | [], [], _, hn => by cases hn
  | [], _ :: _, h, _ => h.elim
  | _ :: _, [], h, _ => h.elim
  | (a1, a2, a3, a4, a5) :: t, (b1, b2, b3, b4) :: u, ⟨⟨h1, h2, h3, h4, h5, h6⟩, hr⟩, hn => by
    simp only at h1 h2 h3 h4 h5 h6
    subst h1; subst h2; subst h3
    rw [zhand] at hn
    cases hc : (Nat.ble a1 pc && Nat.blt pc a2 && Nat.beq a4 x)
    · rw [hc] at hn
      obtain ⟨pre, z, suf, g1, g2, g3⟩ := zhand_some hnc t u hr hn
      refine ⟨⟨a1, a2, a3, b4⟩ :: pre, z, suf, by show _ :: tableOf u = _; rw [g1]; rfl, fun w hw => ?_, g3⟩
      rcases List.mem_cons.mp hw with rfl | hw
      · cases h9 : (Nat.ble a1 pc && Nat.blt pc a2)
        · exact Or.inl (zcov.trans h9)
        · rw [h9, Bool.true_and] at hc
          refine Or.inr ⟨h5, _, h6, hnc _ h4 fun e => ?_⟩
          rw [e, Nat.beq_refl] at hc
          cases hc
      · exact g2 w hw
    · rw [hc] at hn
      simp only [cond_true, Option.some.injEq] at hn
      rw [Bool.and_eq_true] at hc
      have e := Nat.eq_of_beq_eq_true hc.2
      subst e
      exact ⟨[], ⟨a1, a2, a3, b4⟩, tableOf u, rfl, fun _ h => (by cases h), zcov.trans hc.1, h5, h6, hn⟩
theorem ztake_ok : ∀ (n : Nat) (st acc as st' : List zV), ztake n st acc = some (as, st') → ∃ xs, xs.length = n ∧ st = xs ++ st' ∧ as = xs.reverse ++ acc
  | 0, st, acc, as, st', h => by
    simp only [ztake, Option.some.injEq, Prod.mk.injEq] at h
    obtain ⟨rfl, rfl⟩ := h
    exact ⟨[], rfl, rfl, rfl⟩
  | n + 1, [], acc, as, st', h => by cases h
  | n + 1, v :: st, acc, as, st', h => by
    obtain ⟨xs, h1, h2, h3⟩ := ztake_ok n st (v :: acc) as st' h
    exact ⟨v :: xs, by simp [h1], by rw [h2]; rfl, by rw [h3]; simp⟩
theorem ztake_rev {n : Nat} {st as st' : List zV} (h : ztake n st [] = some (as, st')) : as.length = n ∧ st = as.reverse ++ st' := by
  obtain ⟨xs, h1, h2, h3⟩ := ztake_ok n st [] as st' h
  rw [List.append_nil] at h3
  subst h3
  exact ⟨by rw [List.length_reverse, h1], by rw [List.reverse_reverse, h2]⟩
/-! the locals at a method's start -/
theorem zarg_len : ∀ (n : Nat) (as : List zV), (zarg n as).length = n
  | 0, _ => by simp [zarg]
  | n + 1, [] => by simp [zarg, zarg_len n []]
  | 1, v :: _ => by simp [zarg]
  | n + 2, v :: t => by
    unfold zarg
    cases zc2 v
    · simp [zarg_len (n + 1) t]
    · simp [zarg_len n t]
theorem zarg_nil : ∀ (n i : Nat) (v : zV), zget (zarg n []) i ≠ some v
  | 0, i, v => by simp [zarg, zget]
  | n + 1, 0, v => by simp [zarg, zget]
  | n + 1, i + 1, v => by
    simp only [zarg, zget]
    exact zarg_nil n i v
theorem zarg_in : ∀ (n : Nat) (as : List zV) (b i : Nat) (v : zV), zget (zarg n as) i = some v → (b + i, zv v) ∈ lv_args b (as.map zv)
  | 0, _, _, _, _, h => by simp [zarg, zget] at h
  | n + 1, [], b, i, v, h => absurd h (zarg_nil (n + 1) i v)
  | 1, u :: t, b, i, v, h => by
    cases i with
    | zero =>
      simp only [zarg, zget, Option.some.injEq] at h
      subst h
      simp [lv_args]
    | succ i => simp [zarg, zget] at h
  | n + 2, u :: t, b, i, v, h => by
    have hc := zv_cat u
    unfold zarg at h
    cases hu : zc2 u
    · rw [hu] at h hc
      cases i with
      | zero =>
        simp only [cond_false, zget, Option.some.injEq] at h
        subst h
        simp [lv_args]
      | succ i =>
        simp only [cond_false, zget] at h
        have ih := zarg_in (n + 1) t (b + 1) i v h
        rw [show b + 1 + i = b + (i + 1) by omega] at ih
        simp only [List.map_cons, lv_args, hc, cond_false]
        exact List.mem_cons_of_mem _ (by simpa using ih)
    · rw [hu] at h hc
      match i, h with
      | 0, h =>
        simp only [cond_true, zget, Option.some.injEq] at h
        subst h
        simp [lv_args]
      | 1, h => simp [zget] at h
      | i + 2, h =>
        simp only [cond_true, zget] at h
        have ih := zarg_in n t (b + 2) i v h
        rw [show b + 2 + i = b + (i + 2) by omega] at ih
        simp only [List.map_cons, lv_args, hc, cond_true]
        exact List.mem_cons_of_mem _ (by simpa using ih)
theorem zsum_sl : ∀ (as : List zV), (lg_sl (as.map zv)).length = zsum as
  | [] => rfl
  | v :: t => by
    have ih := zsum_sl t
    have hc := zv_cat v
    unfold lg_sl at ih ⊢
    rw [List.map_cons, List.flatMap_cons, List.length_append, ih, zsum]
    cases hv : zc2 v <;> rw [hv] at hc <;> simp [hc] <;> omega
theorem zh_entry {as : List zV} {n : Nat} (h : zsum as ≤ n) : zh ((lg_sl (as.map zv) ++ List.replicate (n - (lg_sl (as.map zv)).length) Slot.unset).toArray) (zarg n as) := by
  have h1 := lv_entry (as.map zv) (n := n) (by rw [zsum_sl]; exact h)
  refine ⟨by rw [zarg_len]; exact h1.1, h1.2.1, fun i v hv => ?_⟩
  have h2 := zarg_in n as 0 i v hv
  rw [Nat.zero_add] at h2
  exact h1.2.2 (i, zv v) h2
