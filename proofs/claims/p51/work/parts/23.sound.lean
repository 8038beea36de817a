/-! The soundness of zW: every method by a contract. -/
def zPre (D : va_G) (cA : Nat → ClassId) (b0 : Nat) (M : zM) : State → Prop := fun U => zWd D cA b0 M U.heap ∧ zEv D cA U ∧ zSt b0 U U.heap ∧ b0 ≤ U.heap.size
def zQc (D : va_G) (cA : Nat → ClassId) (b0 : Nat) (Q : zO → zM → Prop) : Array Value → State → Outcome → State → Prop := fun _ st o t => (∃ v M', o = .returned (Option.map zv v) ∧ Q (.inl v) M' ∧ zWd D cA b0 M' t.heap) ∧ va_F (fun q => b0 ≤ q) st t
def zXc (D : va_G) (cA : Nat → ClassId) (b0 : Nat) (Q : zO → zM → Prop) : String → State → State → Prop := fun E st t => (∃ x M', x < 5 ∧ E = zexn x ∧ Q (.inr x) M' ∧ zWd D cA b0 M' t.heap) ∧ va_F (fun q => b0 ≤ q) st t
section ZSO
variable {p : Program} {l : Launch} {e : Env} {R : Room} {s : State} {m : MethodId} {args : Array Value} {below : List Frame} {meth : Method} {c : Code} {QQ : State → Prop} {D : va_G} {cA : Nat → ClassId} {b0 : Nat} {y d : Nat}
/-- what one run of a method stands on -/
def zCt (p : Program) (l : Launch) (R : Room) (s : State) (m : MethodId) (args : Array Value) (meth : Method) (c : Code) (D : va_G) (cA : Nat → ClassId) (b0 y d : Nat) : Prop :=
  zCx p R s m args meth c D cA y ∧ zEv D cA s ∧ zSt b0 s s.heap ∧ b0 ≤ s.heap.size ∧ y < 299 ∧ l.stackTraces = false ∧ d ≤ R.frames ∧ 46 * d ≤ R.locals ∧ zrel (zown y) args s (zhs y) (zhh y) ∧ (zhs y ≠ [] → c.exceptionTable.toList = tableOf (zhh y))
/-- its ends: by a return, by an exception that isn't caught -/
def zEndR (p : Program) (l : Launch) (e : Env) (R : Room) (s : State) (m : MethodId) (args : Array Value) (below : List Frame) (meth : Method) (c : Code) (QQ : State → Prop) (D : va_G) (cA : Nat → ClassId) (b0 y : Nat) (Q : zO → zM → Prop) : Prop :=
  ∀ (z : zE) (pc : Nat) (L : Array Slot) (H : Heap) (locs : List Loc) (M : zM) (st : List zV) (q : Prop) (v : Option zV), zops y pc = some z → zq z (zret y) st = some (q, v) → q → Q (.inl v) M → zWd D cA b0 M H → va_S (fun q => b0 ≤ q) s.heap H locs → W p l e R s m args below meth c H locs (zmc y) (zms y) QQ (F0 m pc L (st.map zv))
def zEndX (p : Program) (l : Launch) (e : Env) (R : Room) (s : State) (m : MethodId) (args : Array Value) (below : List Frame) (meth : Method) (c : Code) (QQ : State → Prop) (D : va_G) (cA : Nat → ClassId) (b0 y : Nat) (Q : zO → zM → Prop) : Prop :=
  ∀ (x pc : Nat) (L : Array Slot) (H : Heap) (locs : List Loc) (M : zM) (rest : List Value) (q : Nat) (ce : Cell), x < 5 → zhand pc x (zhs y) = none → Q (.inr x) M → zWd D cA b0 M H → va_S (fun q => b0 ≤ q) s.heap H locs → H[q]? = some ce → ce.vm = .none → s.vm.findClass (zexn x) = some ce.cls → vx_W p l e R s m args below meth c H locs (zmc y) (zms y) QQ (F0 m pc L rest) q
theorem z_widen {H : Heap} {locs : List Loc} {cells slots k n : Nat} {Q : State → Prop} {g : JFrame} (h1 : cells ≤ k) (h2 : slots ≤ n) (kk : W p l e R s m args below meth c H locs k n Q g) : W p l e R s m args below meth c H locs cells slots Q g := fun T hT X => kk T hT (stand_widen X h1 h2)
/-- an exception over the frame: caught, or the end -/
theorem z_thrown (C : zCt p l R s m args meth c D cA b0 y d) {Q : zO → zM → Prop} (hX : zEndX p l e R s m args below meth c QQ D cA b0 y Q) {x pc cells slots : Nat} {ls : zLs} {M : zM} {L : Array Slot} {H : Heap} {locs : List Loc} {rest : List Value} {q : Nat} {ce : Cell} (hx6 : x < 5) (hc : cells ≤ zmc y) (hs : slots ≤ zms y)
    (hlen : ls.length = zmaxL y) (hl : zh L ls) (hW : zWd D cA b0 M H) (hS : va_S (fun q => b0 ≤ q) s.heap H locs) (hb0 : b0 ≤ H.size) (hcell : H[q]? = some ce) (hv : ce.vm = .none) (hcl : s.vm.findClass (zexn x) = some ce.cls)
    (hk : match zhand pc x (zhs y) with | some h => ∀ a, zGo p l e R s m args below meth c QQ D cA b0 s.heap y cells slots h ls [zr (some a)] M | none => Q (.inr x) M) : vx_W p l e R s m args below meth c H locs cells slots QQ (F0 m pc L rest) q := by
  obtain ⟨hCx, hE, hSt, hbs, hy, htr, hdR, hlR, hrel, htab⟩ := C
  obtain ⟨hxx, hb, hml, hown, hts, hK, hin, hR1, hR2, hR3, hR4⟩ := hCx
  have hnc : ∀ b, b < 5 → x ≠ b → va_Nc (zexn x) (zexn b) s := fun b hb hne => hE.2.2.2.2 x b hx6 hb hne
  cases hz : zhand pc x (zhs y) with
  | none =>
    rw [hz] at hk
    exact vx_widen hc hs (hX x pc L H locs M rest q ce hx6 hz hk hW hS hcell hv hcl)
  | some h =>
    rw [hz] at hk
    obtain ⟨pre, z, suf, g1, g2, g3, g4, g5, g6⟩ := zhand_some hnc _ _ hrel hz
    have hne : zhs y ≠ [] := fun e => by rw [e] at hz; cases hz
    refine vx_catch hown pre z suf ((htab hne).trans g1) g2 g3 g4 g5 ?_ hcell hv hcl ?_
    · exact zXw_use hE _ (co5 (P := fun x => Cond.castable (zexn x) (zexn x) ∈ zXw) (by decide +kernel) (by decide +kernel) (by decide +kernel) (by decide +kernel) (by decide +kernel) hx6)
    · rw [g6]
      exact hk q hlen L H locs hl hW hS hb0
/-- behind a call -/
theorem z_cont (C : zCt p l R s m args meth c D cA b0 y d) {Q Qc : zO → zM → Prop} (hX : zEndX p l e R s m args below meth c QQ D cA b0 y Q) {pc cells slots mc ms : Nat} {ls : zLs} {st' : List zV} {L : Array Slot} {H : Heap} {locs : List Loc} {st0 : List Value} {arr : Array Value} (hc : cells + mc ≤ zmc y) (hs : slots + ms ≤ zms y)
    (hlen : ls.length = zmaxL y) (hl : zh L ls) (hS : va_S (fun q => b0 ≤ q) s.heap H locs) (hb0 : b0 ≤ H.size)
    (hr : vx_Run p l e R s m args below meth c H locs cells slots mc ms (F0 m pc L st0) (st'.map zv) (zQc D cA b0 Qc arr) (zXc D cA b0 Qc) (fun q => b0 ≤ q))
    (hk : ∀ o M', Qc o M' → match o with
      | .inl v => zGo p l e R s m args below meth c QQ D cA b0 s.heap y (cells + mc) (slots + ms) (pc + 3) ls (v.toList ++ st') M'
      | .inr x => match zhand pc x (zhs y) with
        | some h => ∀ a, zGo p l e R s m args below meth c QQ D cA b0 s.heap y (cells + mc) (slots + ms) h ls [zr (some a)] M'
        | none => Q (.inr x) M') : W p l e R s m args below meth c H locs cells slots QQ (F0 m pc L st0) := by
  intro T hT X
  rcases hr T hT X with ⟨v, st₀, t, T', L', h0, X', hL, e1, e2, ⟨⟨v', M', hv, hq, hW'⟩, hF⟩, st⟩ | ⟨q, st₀, t, T', L', E, ce, h0, X', hL, e1, e2, ⟨⟨x, M', hx6, rfl, hq, hW'⟩, hF⟩, hce, hcv, hcl, st⟩
  · obtain ⟨k1, k2, k3⟩ := vx_keep h0 e1 hS (fun q _ h => h) (fun q h => h) hL hF
    have hk' := hk _ _ hq hlen L T'.heap (locs ++ L') hl (by rw [e1]; exact hW') k3 (Nat.le_trans hb0 k1)
    obtain ⟨t2, a1, b1⟩ := hk' T' rfl X'
    refine ⟨t2, st t2 ?_, b1⟩
    have ev : v = Option.map zv v' := by cases hv; rfl
    subst ev
    have es : (Option.map zv v').toList ++ st'.map zv = (v'.toList ++ st').map zv := by cases v' <;> rfl
    show Steps p.tables e below (T'.setTop (F0 m (pc + 3) L ((Option.map zv v').toList ++ st'.map zv))) t2
    rw [es]
    exact a1
  · obtain ⟨k1, k2, k3⟩ := vx_keep h0 e1 hS (fun q _ h => h) (fun q h => h) hL hF
    have hk' := hk _ _ hq
    have hth := z_thrown (rest := st'.map zv) C hX hx6 hc hs hlen hl (H := T'.heap) (by rw [e1]; exact hW') k3 (Nat.le_trans hb0 k1) (by rw [e1]; exact hce) hcv hcl hk'
    obtain ⟨t2, a1, b1⟩ := hth T' rfl X'
    exact ⟨t2, st.trans a1, b1⟩
end ZSO
/-- the machine does what is said of a place -/
def zSd (y d cells slots pc : Nat) (ls : zLs) (st : List zV) (M : zM) (Q : zO → zM → Prop) : Prop := ∀ ⦃p : Program⦄ ⦃l : Launch⦄ ⦃e : Env⦄ ⦃R : Room⦄ ⦃s : State⦄ ⦃m : MethodId⦄ ⦃args : Array Value⦄ ⦃below : List Frame⦄ ⦃meth : Method⦄ ⦃c : Code⦄ ⦃QQ : State → Prop⦄ ⦃D : va_G⦄ ⦃cA : Nat → ClassId⦄ ⦃b0 : Nat⦄,
  zCt p l R s m args meth c D cA b0 y d → zEndR p l e R s m args below meth c QQ D cA b0 y Q → zEndX p l e R s m args below meth c QQ D cA b0 y Q → cells ≤ zmc y → slots ≤ zms y → zGo p l e R s m args below meth c QQ D cA b0 s.heap y cells slots pc ls st M
theorem zrf_or (x : Option Nat) : va_rf x = .null ∨ ∃ a, va_rf x = .ref a := by
  cases x with
  | none => exact Or.inl rfl
  | some a => exact Or.inr ⟨a, rfl⟩
section ZEN
variable {p : Program} {l : Launch} {e : Env} {R : Room} {s : State} {m : MethodId} {args : Array Value} {below : List Frame} {meth : Method} {c : Code} {D : va_G} {cA : Nat → ClassId} {b0 : Nat} {y d : Nat} {Q : zO → zM → Prop}
theorem z_endR (hx : p.tables.exec = Jvm.exec) (hb : c.code = zcode y) (hy : y < 298) (hr : meth.sig.returnType = zret y) (hlocks : meth.locks = false) : zEndR p l e R s m args below meth c (vx_MQ below (zQc D cA b0 Q) (zXc D cA b0 Q) args s (zmc y) (zms y) (fun q => b0 ≤ q)) D cA b0 y Q := by
  intro z pc L H locs M st q v he hz hq hQ hW hS
  have hc := zchk_p y (by omega) pc z he
  obtain ⟨ins, nxt, aux, pos⟩ := z
  obtain ⟨hd, hn, ho⟩ := zfact hc
  have hF : ∀ t : State, t.heap = H → va_F (fun q => b0 ≤ q) s t := fun t ht => hS.F ht
  refine vx_ret ?_
  unfold zq at hz
  dsimp only at hz
  split at hz
  · rename_i e3
    simp only [Option.some.injEq, Prod.mk.injEq] at hz
    obtain ⟨rfl, rfl⟩ := hz
    exact W.vret hx hb (hr.trans e3) (fun t ht hWm => ⟨⟨none, M, rfl, hQ, by rw [ht]; exact hW⟩, hF t ht⟩) hS.2.2 hd hlocks
  · rename_i e3
    simp only [Option.some.injEq, Prod.mk.injEq] at hz
    obtain ⟨rfl, rfl⟩ := hz
    exact W.iret hx hb (hr.trans e3) (fun t ht hWm => ⟨⟨some (zi _), M, rfl, hQ, by rw [ht]; exact hW⟩, hF t ht⟩) hS.2.2 hd hlocks
  · rename_i e3
    simp only [Option.some.injEq, Prod.mk.injEq] at hz
    obtain ⟨rfl, rfl⟩ := hz
    exact W.zret hx hb (hr.trans e3) (z01_nar hq).1 (fun t ht hWm => ⟨⟨some (zi _), M, rfl, hQ, by rw [ht]; exact hW⟩, hF t ht⟩) hS.2.2 hd hlocks
  · rename_i e3
    simp only [Option.some.injEq, Prod.mk.injEq] at hz
    obtain ⟨rfl, rfl⟩ := hz
    exact W.lret hx hb (hr.trans e3) (fun t ht hWm => ⟨⟨some (zl _), M, rfl, hQ, by rw [ht]; exact hW⟩, hF t ht⟩) hS.2.2 hd hlocks
  · rename_i e3
    simp only [Option.some.injEq, Prod.mk.injEq] at hz
    obtain ⟨rfl, rfl⟩ := hz
    exact W.fret hx hb (hr.trans e3) (fun t ht hWm => ⟨⟨some (zf _), M, rfl, hQ, by rw [ht]; exact hW⟩, hF t ht⟩) hS.2.2 hd hlocks
  · rename_i e3
    simp only [Option.some.injEq, Prod.mk.injEq] at hz
    obtain ⟨rfl, rfl⟩ := hz
    exact W.dret hx hb (hr.trans e3) (fun t ht hWm => ⟨⟨some (zd _), M, rfl, hQ, by rw [ht]; exact hW⟩, hF t ht⟩) hS.2.2 hd hlocks
  · rename_i e3
    simp only [Option.some.injEq, Prod.mk.injEq] at hz
    obtain ⟨rfl, rfl⟩ := hz
    exact W.aret hx hb (hr.trans e3) (Or.inl ⟨_, rfl⟩) (zrf_or _) (fun t ht hWm => ⟨⟨some (zr _), M, rfl, hQ, by rw [ht]; exact hW⟩, hF t ht⟩) hS.2.2 hd hlocks
  · cases hz
theorem z_endX (C : zCt p l R s m args meth c D cA b0 y d) (htab9 : c.exceptionTable.toList = tableOf (zhh y)) (hlocks : meth.locks = false) : zEndX p l e R s m args below meth c (vx_MQ below (zQc D cA b0 Q) (zXc D cA b0 Q) args s (zmc y) (zms y) (fun q => b0 ≤ q)) D cA b0 y Q := by
  intro x pc L H locs M rest q ce hx6 hz hQ hW hS hcell hv hcl
  obtain ⟨hCx, hE, hSt, hbs, hy, htr, hdR, hlR, hrel, htab⟩ := C
  obtain ⟨hxx, hb, hml, hown, hts, hK, hin, hR1, hR2, hR3, hR4⟩ := hCx
  have hnc : ∀ b, b < 5 → x ≠ b → va_Nc (zexn x) (zexn b) s := fun b hb hne => hE.2.2.2.2 x b hx6 hb hne
  refine vx_outP hown hlocks (fun z hz2 => ?_) hcell hv hcl (fun t ht hal => ⟨⟨x, M, hx6, rfl, hQ, by rw [ht]; exact hW⟩, hS.F ht⟩) hS.2.2 (Nat.le_refl _) (Nat.le_refl _)
  rw [htab9] at hz2
  exact zhand_none hnc _ _ hrel hz z hz2
end ZEN
/-- a method's contract -/
theorem z_meet {l : Launch} (htr : l.stackTraces = false) {D : va_G} {cA : Nat → ClassId} {b0 y d : Nat} {as : List zV} {M : zM} {Q : zO → zM → Prop} (hy : y < 298) (hd : 1 ≤ d) (hfit : zsum as ≤ zmaxL y) (h : zSd y d 0 0 0 (zarg (zmaxL y) as) [] M Q) :
    vx_Met l (zname y) (zword y :: zU) { frames := d, locals := 46 * d, cells := zmc y, slots := zms y } (va_Pc (as.map zv) (zPre D cA b0 M)) (zQc D cA b0 Q) (zXc D cA b0 Q) (zmc y) (zms y) (fun q => b0 ≤ q) := by
  obtain ⟨f1, f2, f3, f4, f5, f6, f7, f8, f9, f10, f11, f12⟩ := zfM hy
  have body : ∀ (p : Program) (e : Env) (s : State) (m : MethodId) (args : Array Value) (below : List Frame) (meth : Method) (c : Code) (s₁ : State), BodyLoose p l (zname y) (headSpec (zword y :: zU) { frames := d, locals := 46 * d, cells := zmc y, slots := zms y }) (zcode y) (zmaxL y) (zret y) e s m args below meth c s₁ → c.maxLocals = zmaxL y → c.exceptionTable.toList = tableOf (zhh y) → va_Pc (as.map zv) (zPre D cA b0 M) args s →
      W p l e (headSpec (zword y :: zU) { frames := d, locals := 46 * d, cells := zmc y, slots := zms y }).room s m args below meth c s.heap [] 0 0 (vx_MQ below (zQc D cA b0 Q) (zXc D cA b0 Q) args s (zmc y) (zms y) (fun q => b0 ≤ q)) (entryFrame m args (zmaxL y)) := by
    intro p e s m args below meth c s₁ B hml htab hP
    obtain ⟨rfl, hW, hE, hSt, hb0⟩ := hP
    have hts : ∀ w ∈ zU, w.before (as.map zv).toArray s = true := fun w hw => atoms_spec (ws := zword y :: zU) B.pre w (List.mem_cons_of_mem _ hw)
    have hown : s.vm.findClass (zown y) = some m.cls := by rw [← f4]; exact findClass_of_methodNamed B.named
    have hC : zCt p l { frames := d, locals := 46 * d, cells := zmc y, slots := zms y } s m (as.map zv).toArray meth c D cA b0 y d := by
      refine ⟨⟨B.exec, B.bytes, hml, hown, hts, hE.1, fun hk => ?_, hd, by show 46 ≤ 46 * d; omega, Nat.le_refl _, Nat.le_refl _⟩, hE, hSt, hb0, by omega, htr, Nat.le_refl _, Nat.le_refl _, zrel_of hts _ _ f11 f12, fun _ => htab⟩
      rw [(name_of_methodNamed B.named B.method).1]
      exact (f10 hk).2.2.2.1
    have hlocks : meth.locks = false := B.notSynchronized
    have hG := h hC (z_endR (l := l) (e := e) (R := { frames := d, locals := 46 * d, cells := zmc y, slots := zms y }) (args := (as.map zv).toArray) (below := below) (s := s) (D := D) (cA := cA) (b0 := b0) (Q := Q) B.exec B.bytes hy B.returns hlocks) (z_endX hC htab hlocks) (Nat.zero_le _) (Nat.zero_le _)
    rw [lg_entry_eq]
    exact hG (zarg_len _ _) _ s.heap [] (zh_entry hfit) hW va_S.rf hb0
  cases hhh : zhh y with
  | nil =>
    refine vx_ofW (cc := zcode y) (maxL := zmaxL y) (ret := zret y) (ws' := zU) f3 (by unfold zword; rw [hhh]) fun p e s m args below meth c s₁ B hml ht hP => ?_
    refine body p e s m args below meth c s₁ B hml ?_ hP
    rw [hhh]
    cases hT : c.exceptionTable.toList with
    | nil => rfl
    | cons a t => exact (ht a (by rw [hT]; exact List.mem_cons_self)).elim
  | cons hd0 tl =>
    have hwd : zword y = Cond.codeWith (zname y) (zcode y) (zmaxL y) (zret y) (zhh y) := by unfold zword; rw [hhh]
    refine vx_ofWH (cc := zcode y) (maxL := zmaxL y) (ret := zret y) (hh := zhh y) (ws' := zU) f3 (by rw [hwd]) fun p e s m args below meth c s₁ B hml hP => ?_
    refine body p e s m args below meth c s₁ B hml ?_ hP
    refine vx_table (x := zname y) B (bytes := zcode y) (maxL' := zmaxL y) (ret' := zret y) ?_
    rw [← hwd]
    exact atoms_spec (ws := zword y :: zU) B.pre _ List.mem_cons_self
