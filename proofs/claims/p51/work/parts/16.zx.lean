/-! Each straight instruction of zx is one step of the machine. -/
noncomputable def zchkT (y : Nat) (e : zE) : Bool := match e with
  | (ins, _, aux, pos) => match ins with
    | .astore_n _ | .astore _ | .istore_n _ | .istore _ | .fstore_n _ | .fstore _ => Nat.blt aux (zmaxL y)
    | .lstore_n _ | .lstore _ | .dstore_n _ | .dstore _ => Nat.blt (aux + 1) (zmaxL y)
    | .multianewarray idx dm => zwd pos (.classLink (zown y) idx "[[I") && Nat.beq dm 2
    | .ldc idx => Nat.beq pos 0 || zwd pos (.constant (zown y) idx (zcn (zldI pos)))
    | _ => true
noncomputable def zchkTP (y : Nat) : Nat → Bool
  | 0 => true
  | k + 1 => (match zopt y k with
    | none => true
    | some e => zchkT y e) && zchkTP y k
theorem zchkTP_at {y : Nat} : ∀ {n k : Nat} {e : zE}, zchkTP y n = true → k < n → zopt y k = some e → zchkT y e = true
  | n + 1, k, e, h, hk, he => by
    simp only [zchkTP, Bool.and_eq_true] at h
    by_cases q : k = n
    · subst q
      have h1 := h.1
      rw [he] at h1
      exact h1
    · exact zchkTP_at h.2 (by omega) he

theorem zkt0 : (List.range' 0 60).all (fun y => zchkTP y (zlen y)) = true := by decide +kernel
theorem zkt60 : (List.range' 60 50).all (fun y => zchkTP y (zlen y)) = true := by decide +kernel
theorem zkt110 : (List.range' 110 40).all (fun y => zchkTP y (zlen y)) = true := by decide +kernel
theorem zkt150 : (List.range' 150 50).all (fun y => zchkTP y (zlen y)) = true := by decide +kernel
theorem zkt200 : (List.range' 200 50).all (fun y => zchkTP y (zlen y)) = true := by decide +kernel
theorem zkt250 : (List.range' 250 48).all (fun y => zchkTP y (zlen y)) = true := by decide +kernel
theorem zkt298 : (List.range' 298 1).all (fun y => zchkTP y (zlen y)) = true := by decide +kernel
theorem zchk_t {y pc : Nat} {e : zE} (hy : y < 299) (he : zops y pc = some e) : zchkT y e = true := by
  have key : zchkTP y (zlen y) = true := by
    by_cases h0 : y < 60
    · exact zall_in zkt0 (by omega) (by omega)
    by_cases h60 : y < 110
    · exact zall_in zkt60 (by omega) (by omega)
    by_cases h110 : y < 150
    · exact zall_in zkt110 (by omega) (by omega)
    by_cases h150 : y < 200
    · exact zall_in zkt150 (by omega) (by omega)
    by_cases h200 : y < 250
    · exact zall_in zkt200 (by omega) (by omega)
    by_cases h250 : y < 298
    · exact zall_in zkt250 (by omega) (by omega)
    exact zall_in zkt298 (by omega) (by omega)
  unfold zops at he
  cases q : Nat.ble (zlen y) pc
  · rw [q] at he
    refine zchkTP_at key (Nat.lt_of_not_le fun r => ?_) he
    rw [Nat.ble_eq_true_of_le r] at q
    cases q
  · rw [q] at he
    cases he

section ZX
variable {p : Program} {l : Launch} {e : Env} {R : Room} {s : State} {m : MethodId} {args : Array Value} {below : List Frame} {meth : Method} {c : Code} {cells slots : Nat} {Q : State → Prop} {D : va_G} {cA : Nat → ClassId} {b0 : Nat} {H0 : Heap} {y : Nat}
/-- what a method's body stands on -/
def zCx (p : Program) (R : Room) (s : State) (m : MethodId) (args : Array Value) (meth : Method) (c : Code) (D : va_G) (cA : Nat → ClassId) (y : Nat) : Prop := p.tables.exec = Jvm.exec ∧ c.code = zcode y ∧ c.maxLocals = zmaxL y ∧ s.vm.findClass (zown y) = some m.cls ∧ (∀ w ∈ zU, w.before args s = true) ∧ zKn D cA s ∧ (zkd y = 2 → meth.name = "<init>") ∧ 1 ≤ R.frames ∧ 46 ≤ R.locals ∧ zmc y ≤ R.cells ∧ zms y ≤ R.slots
/-- from here on all goes well -/
def zGo (p : Program) (l : Launch) (e : Env) (R : Room) (s : State) (m : MethodId) (args : Array Value) (below : List Frame) (meth : Method) (c : Code) (Q : State → Prop) (D : va_G) (cA : Nat → ClassId) (b0 : Nat) (H0 : Heap) (y cells slots pc : Nat) (ls : zLs) (st : List zV) (M : zM) : Prop :=
  ls.length = zmaxL y → ∀ (L : Array Slot) (H : Heap) (locs : List Loc), zh L ls → zWd D cA b0 M H → va_S (fun q => b0 ≤ q) H0 H locs → b0 ≤ H.size → W p l e R s m args below meth c H locs cells slots Q (F0 m pc L (st.map zv))
theorem zfact {y pc : Nat} {e : zE} (h : zchkI y pc e = true) : decode (zcode y) pc = .ok (e.1, zlenI e.1 (e.2.1 - pc)) ∧ e.2.1 = pc + zlenI e.1 (e.2.1 - pc) ∧ zchkO y pc e = true := by
  simp only [zchkI, Bool.and_eq_true, decide_eq_true_eq] at h
  exact ⟨h.1.1, Nat.eq_of_beq_eq_true h.1.2, h.2⟩
theorem zsum_cat : ∀ (st : List zV), ((st.map zv).map fun v => v.category).sum = zsum st
  | [] => rfl
  | v :: t => by
    have ih := zsum_cat t
    simp only [List.map_cons, List.sum_cons, ih, zv_cat, zsum]
    cases zc2 v <;> simp <;> omega
theorem zis_some {M : zM} {r : Option Nat} {t : Nat} (h : zis M r t) : ∃ a n, r = some a ∧ zg r = a ∧ zK M a = some (t, n) ∧ zlenOf M r = n := by
  obtain ⟨a, n, rfl, h2⟩ := h
  exact ⟨a, n, rfl, rfl, h2, by unfold zlenOf; rw [show zg (some a) = a from rfl, h2]⟩
variable {pc nxt aux pos pc' : Nat} {ls ls' : zLs} {st st' : List zV} {M M' : zM} {ps : List Prop}

theorem zx_aload_n {k : Fin 4} (C : zCx p R s m args meth c D cA y) (hc : zchkI y pc (.aload_n k, nxt, aux, pos) = true) (ht : zchkT y (.aload_n k, nxt, aux, pos) = true) (hcs : cells ≤ R.cells ∧ slots ≤ R.slots) (hz : zx (.aload_n k, nxt, aux, pos) ls st M = some (ps, pc', ls', st', M')) (hp : zall ps) (kk : zGo p l e R s m args below meth c Q D cA b0 H0 y cells slots pc' ls' st' M') : zGo p l e R s m args below meth c Q D cA b0 H0 y cells slots pc ls st M := by
  obtain ⟨hx, hb, hml, hown, hts, hK, hin, hR1, hR2, hR3, hR4⟩ := C
  obtain ⟨hd, hn, ho⟩ := zfact hc
  have hd : decode (zcode y) pc = .ok (.aload_n k, 1) := hd
  have hn : nxt = pc + 1 := hn
  subst hn
  unfold zx at hz
  dsimp only at hz
  have hj : (k : Nat) = aux := Nat.eq_of_beq_eq_true ho
  split at hz
  · rename_i x hg
    simp only [Option.some.injEq, Prod.mk.injEq] at hz
    obtain ⟨rfl, rfl, rfl, rfl, rfl⟩ := hz
    intro hlen L H locs hl hW hS hb0
    exact z_aload_n hx hb hd hj (hl.2.2 _ _ hg) (kk hlen L H locs hl hW hS hb0)
  · cases hz
theorem zx_aload {k : Nat} (C : zCx p R s m args meth c D cA y) (hc : zchkI y pc (.aload k, nxt, aux, pos) = true) (ht : zchkT y (.aload k, nxt, aux, pos) = true) (hcs : cells ≤ R.cells ∧ slots ≤ R.slots) (hz : zx (.aload k, nxt, aux, pos) ls st M = some (ps, pc', ls', st', M')) (hp : zall ps) (kk : zGo p l e R s m args below meth c Q D cA b0 H0 y cells slots pc' ls' st' M') : zGo p l e R s m args below meth c Q D cA b0 H0 y cells slots pc ls st M := by
  obtain ⟨hx, hb, hml, hown, hts, hK, hin, hR1, hR2, hR3, hR4⟩ := C
  obtain ⟨hd, hn, ho⟩ := zfact hc
  have hd : decode (zcode y) pc = .ok (.aload k, 2) := hd
  have hn : nxt = pc + 2 := hn
  subst hn
  unfold zx at hz
  dsimp only at hz
  have hj : k = aux := Nat.eq_of_beq_eq_true ho
  subst hj
  split at hz
  · rename_i x hg
    simp only [Option.some.injEq, Prod.mk.injEq] at hz
    obtain ⟨rfl, rfl, rfl, rfl, rfl⟩ := hz
    intro hlen L H locs hl hW hS hb0
    exact z_aload hx hb hd (hl.2.2 _ _ hg) (kk hlen L H locs hl hW hS hb0)
  · cases hz
theorem zx_iload_n {k : Fin 4} (C : zCx p R s m args meth c D cA y) (hc : zchkI y pc (.iload_n k, nxt, aux, pos) = true) (ht : zchkT y (.iload_n k, nxt, aux, pos) = true) (hcs : cells ≤ R.cells ∧ slots ≤ R.slots) (hz : zx (.iload_n k, nxt, aux, pos) ls st M = some (ps, pc', ls', st', M')) (hp : zall ps) (kk : zGo p l e R s m args below meth c Q D cA b0 H0 y cells slots pc' ls' st' M') : zGo p l e R s m args below meth c Q D cA b0 H0 y cells slots pc ls st M := by
  obtain ⟨hx, hb, hml, hown, hts, hK, hin, hR1, hR2, hR3, hR4⟩ := C
  obtain ⟨hd, hn, ho⟩ := zfact hc
  have hd : decode (zcode y) pc = .ok (.iload_n k, 1) := hd
  have hn : nxt = pc + 1 := hn
  subst hn
  unfold zx at hz
  dsimp only at hz
  have hj : (k : Nat) = aux := Nat.eq_of_beq_eq_true ho
  split at hz
  · rename_i x hg
    simp only [Option.some.injEq, Prod.mk.injEq] at hz
    obtain ⟨rfl, rfl, rfl, rfl, rfl⟩ := hz
    intro hlen L H locs hl hW hS hb0
    exact lv_iload_n hx hb hd hj (hl.2.2 _ _ hg) (kk hlen L H locs hl hW hS hb0)
  · cases hz
theorem zx_iload {k : Nat} (C : zCx p R s m args meth c D cA y) (hc : zchkI y pc (.iload k, nxt, aux, pos) = true) (ht : zchkT y (.iload k, nxt, aux, pos) = true) (hcs : cells ≤ R.cells ∧ slots ≤ R.slots) (hz : zx (.iload k, nxt, aux, pos) ls st M = some (ps, pc', ls', st', M')) (hp : zall ps) (kk : zGo p l e R s m args below meth c Q D cA b0 H0 y cells slots pc' ls' st' M') : zGo p l e R s m args below meth c Q D cA b0 H0 y cells slots pc ls st M := by
  obtain ⟨hx, hb, hml, hown, hts, hK, hin, hR1, hR2, hR3, hR4⟩ := C
  obtain ⟨hd, hn, ho⟩ := zfact hc
  have hd : decode (zcode y) pc = .ok (.iload k, 2) := hd
  have hn : nxt = pc + 2 := hn
  subst hn
  unfold zx at hz
  dsimp only at hz
  have hj : k = aux := Nat.eq_of_beq_eq_true ho
  subst hj
  split at hz
  · rename_i x hg
    simp only [Option.some.injEq, Prod.mk.injEq] at hz
    obtain ⟨rfl, rfl, rfl, rfl, rfl⟩ := hz
    intro hlen L H locs hl hW hS hb0
    exact lv_iload hx hb hd (hl.2.2 _ _ hg) (kk hlen L H locs hl hW hS hb0)
  · cases hz
theorem zx_lload_n {k : Fin 4} (C : zCx p R s m args meth c D cA y) (hc : zchkI y pc (.lload_n k, nxt, aux, pos) = true) (ht : zchkT y (.lload_n k, nxt, aux, pos) = true) (hcs : cells ≤ R.cells ∧ slots ≤ R.slots) (hz : zx (.lload_n k, nxt, aux, pos) ls st M = some (ps, pc', ls', st', M')) (hp : zall ps) (kk : zGo p l e R s m args below meth c Q D cA b0 H0 y cells slots pc' ls' st' M') : zGo p l e R s m args below meth c Q D cA b0 H0 y cells slots pc ls st M := by
  obtain ⟨hx, hb, hml, hown, hts, hK, hin, hR1, hR2, hR3, hR4⟩ := C
  obtain ⟨hd, hn, ho⟩ := zfact hc
  have hd : decode (zcode y) pc = .ok (.lload_n k, 1) := hd
  have hn : nxt = pc + 1 := hn
  subst hn
  unfold zx at hz
  dsimp only at hz
  have hj : (k : Nat) = aux := Nat.eq_of_beq_eq_true ho
  split at hz
  · rename_i x hg
    simp only [Option.some.injEq, Prod.mk.injEq] at hz
    obtain ⟨rfl, rfl, rfl, rfl, rfl⟩ := hz
    intro hlen L H locs hl hW hS hb0
    exact lv_lload_n hx hb hd hj (hl.2.2 _ _ hg) (kk hlen L H locs hl hW hS hb0)
  · cases hz
theorem zx_lload {k : Nat} (C : zCx p R s m args meth c D cA y) (hc : zchkI y pc (.lload k, nxt, aux, pos) = true) (ht : zchkT y (.lload k, nxt, aux, pos) = true) (hcs : cells ≤ R.cells ∧ slots ≤ R.slots) (hz : zx (.lload k, nxt, aux, pos) ls st M = some (ps, pc', ls', st', M')) (hp : zall ps) (kk : zGo p l e R s m args below meth c Q D cA b0 H0 y cells slots pc' ls' st' M') : zGo p l e R s m args below meth c Q D cA b0 H0 y cells slots pc ls st M := by
  obtain ⟨hx, hb, hml, hown, hts, hK, hin, hR1, hR2, hR3, hR4⟩ := C
  obtain ⟨hd, hn, ho⟩ := zfact hc
  have hd : decode (zcode y) pc = .ok (.lload k, 2) := hd
  have hn : nxt = pc + 2 := hn
  subst hn
  unfold zx at hz
  dsimp only at hz
  have hj : k = aux := Nat.eq_of_beq_eq_true ho
  subst hj
  split at hz
  · rename_i x hg
    simp only [Option.some.injEq, Prod.mk.injEq] at hz
    obtain ⟨rfl, rfl, rfl, rfl, rfl⟩ := hz
    intro hlen L H locs hl hW hS hb0
    exact lv_lload hx hb hd (hl.2.2 _ _ hg) (kk hlen L H locs hl hW hS hb0)
  · cases hz
theorem zx_fload_n {k : Fin 4} (C : zCx p R s m args meth c D cA y) (hc : zchkI y pc (.fload_n k, nxt, aux, pos) = true) (ht : zchkT y (.fload_n k, nxt, aux, pos) = true) (hcs : cells ≤ R.cells ∧ slots ≤ R.slots) (hz : zx (.fload_n k, nxt, aux, pos) ls st M = some (ps, pc', ls', st', M')) (hp : zall ps) (kk : zGo p l e R s m args below meth c Q D cA b0 H0 y cells slots pc' ls' st' M') : zGo p l e R s m args below meth c Q D cA b0 H0 y cells slots pc ls st M := by
  obtain ⟨hx, hb, hml, hown, hts, hK, hin, hR1, hR2, hR3, hR4⟩ := C
  obtain ⟨hd, hn, ho⟩ := zfact hc
  have hd : decode (zcode y) pc = .ok (.fload_n k, 1) := hd
  have hn : nxt = pc + 1 := hn
  subst hn
  unfold zx at hz
  dsimp only at hz
  have hj : (k : Nat) = aux := Nat.eq_of_beq_eq_true ho
  split at hz
  · rename_i x hg
    simp only [Option.some.injEq, Prod.mk.injEq] at hz
    obtain ⟨rfl, rfl, rfl, rfl, rfl⟩ := hz
    intro hlen L H locs hl hW hS hb0
    exact lv_fload_n hx hb hd hj (hl.2.2 _ _ hg) (kk hlen L H locs hl hW hS hb0)
  · cases hz
theorem zx_fload {k : Nat} (C : zCx p R s m args meth c D cA y) (hc : zchkI y pc (.fload k, nxt, aux, pos) = true) (ht : zchkT y (.fload k, nxt, aux, pos) = true) (hcs : cells ≤ R.cells ∧ slots ≤ R.slots) (hz : zx (.fload k, nxt, aux, pos) ls st M = some (ps, pc', ls', st', M')) (hp : zall ps) (kk : zGo p l e R s m args below meth c Q D cA b0 H0 y cells slots pc' ls' st' M') : zGo p l e R s m args below meth c Q D cA b0 H0 y cells slots pc ls st M := by
  obtain ⟨hx, hb, hml, hown, hts, hK, hin, hR1, hR2, hR3, hR4⟩ := C
  obtain ⟨hd, hn, ho⟩ := zfact hc
  have hd : decode (zcode y) pc = .ok (.fload k, 2) := hd
  have hn : nxt = pc + 2 := hn
  subst hn
  unfold zx at hz
  dsimp only at hz
  have hj : k = aux := Nat.eq_of_beq_eq_true ho
  subst hj
  split at hz
  · rename_i x hg
    simp only [Option.some.injEq, Prod.mk.injEq] at hz
    obtain ⟨rfl, rfl, rfl, rfl, rfl⟩ := hz
    intro hlen L H locs hl hW hS hb0
    exact lv_fload hx hb hd (hl.2.2 _ _ hg) (kk hlen L H locs hl hW hS hb0)
  · cases hz
theorem zx_dload_n {k : Fin 4} (C : zCx p R s m args meth c D cA y) (hc : zchkI y pc (.dload_n k, nxt, aux, pos) = true) (ht : zchkT y (.dload_n k, nxt, aux, pos) = true) (hcs : cells ≤ R.cells ∧ slots ≤ R.slots) (hz : zx (.dload_n k, nxt, aux, pos) ls st M = some (ps, pc', ls', st', M')) (hp : zall ps) (kk : zGo p l e R s m args below meth c Q D cA b0 H0 y cells slots pc' ls' st' M') : zGo p l e R s m args below meth c Q D cA b0 H0 y cells slots pc ls st M := by
  obtain ⟨hx, hb, hml, hown, hts, hK, hin, hR1, hR2, hR3, hR4⟩ := C
  obtain ⟨hd, hn, ho⟩ := zfact hc
  have hd : decode (zcode y) pc = .ok (.dload_n k, 1) := hd
  have hn : nxt = pc + 1 := hn
  subst hn
  unfold zx at hz
  dsimp only at hz
  have hj : (k : Nat) = aux := Nat.eq_of_beq_eq_true ho
  split at hz
  · rename_i x hg
    simp only [Option.some.injEq, Prod.mk.injEq] at hz
    obtain ⟨rfl, rfl, rfl, rfl, rfl⟩ := hz
    intro hlen L H locs hl hW hS hb0
    exact lv_dload_n hx hb hd hj (hl.2.2 _ _ hg) (kk hlen L H locs hl hW hS hb0)
  · cases hz
theorem zx_dload {k : Nat} (C : zCx p R s m args meth c D cA y) (hc : zchkI y pc (.dload k, nxt, aux, pos) = true) (ht : zchkT y (.dload k, nxt, aux, pos) = true) (hcs : cells ≤ R.cells ∧ slots ≤ R.slots) (hz : zx (.dload k, nxt, aux, pos) ls st M = some (ps, pc', ls', st', M')) (hp : zall ps) (kk : zGo p l e R s m args below meth c Q D cA b0 H0 y cells slots pc' ls' st' M') : zGo p l e R s m args below meth c Q D cA b0 H0 y cells slots pc ls st M := by
  obtain ⟨hx, hb, hml, hown, hts, hK, hin, hR1, hR2, hR3, hR4⟩ := C
  obtain ⟨hd, hn, ho⟩ := zfact hc
  have hd : decode (zcode y) pc = .ok (.dload k, 2) := hd
  have hn : nxt = pc + 2 := hn
  subst hn
  unfold zx at hz
  dsimp only at hz
  have hj : k = aux := Nat.eq_of_beq_eq_true ho
  subst hj
  split at hz
  · rename_i x hg
    simp only [Option.some.injEq, Prod.mk.injEq] at hz
    obtain ⟨rfl, rfl, rfl, rfl, rfl⟩ := hz
    intro hlen L H locs hl hW hS hb0
    exact lv_dload hx hb hd (hl.2.2 _ _ hg) (kk hlen L H locs hl hW hS hb0)
  · cases hz
theorem zx_astore_n {k : Fin 4} (C : zCx p R s m args meth c D cA y) (hc : zchkI y pc (.astore_n k, nxt, aux, pos) = true) (ht : zchkT y (.astore_n k, nxt, aux, pos) = true) (hcs : cells ≤ R.cells ∧ slots ≤ R.slots) (hz : zx (.astore_n k, nxt, aux, pos) ls st M = some (ps, pc', ls', st', M')) (hp : zall ps) (kk : zGo p l e R s m args below meth c Q D cA b0 H0 y cells slots pc' ls' st' M') : zGo p l e R s m args below meth c Q D cA b0 H0 y cells slots pc ls st M := by
  obtain ⟨hx, hb, hml, hown, hts, hK, hin, hR1, hR2, hR3, hR4⟩ := C
  obtain ⟨hd, hn, ho⟩ := zfact hc
  have hd : decode (zcode y) pc = .ok (.astore_n k, 1) := hd
  have hn : nxt = pc + 1 := hn
  subst hn
  unfold zx at hz
  dsimp only at hz
  have hj : (k : Nat) = aux := Nat.eq_of_beq_eq_true ho
  have hlt : aux < zmaxL y := Nat.le_of_ble_eq_true ht
  split at hz
  · rename_i x st
    rw [zforce_eq] at hz
    simp only [Option.some.injEq, Prod.mk.injEq] at hz
    obtain ⟨rfl, rfl, rfl, rfl, rfl⟩ := hz
    intro hlen L H locs hl hW hS hb0
    rw [← hlen] at hlt
    exact z_astore_n hx hb hd hj hl hlt fun L' h' => kk (by rw [zst_len]; exact hlen) L' H locs h' hW hS hb0
  · cases hz
theorem zx_astore {k : Nat} (C : zCx p R s m args meth c D cA y) (hc : zchkI y pc (.astore k, nxt, aux, pos) = true) (ht : zchkT y (.astore k, nxt, aux, pos) = true) (hcs : cells ≤ R.cells ∧ slots ≤ R.slots) (hz : zx (.astore k, nxt, aux, pos) ls st M = some (ps, pc', ls', st', M')) (hp : zall ps) (kk : zGo p l e R s m args below meth c Q D cA b0 H0 y cells slots pc' ls' st' M') : zGo p l e R s m args below meth c Q D cA b0 H0 y cells slots pc ls st M := by
  obtain ⟨hx, hb, hml, hown, hts, hK, hin, hR1, hR2, hR3, hR4⟩ := C
  obtain ⟨hd, hn, ho⟩ := zfact hc
  have hd : decode (zcode y) pc = .ok (.astore k, 2) := hd
  have hn : nxt = pc + 2 := hn
  subst hn
  unfold zx at hz
  dsimp only at hz
  have hj : k = aux := Nat.eq_of_beq_eq_true ho
  subst hj
  have hlt : k < zmaxL y := Nat.le_of_ble_eq_true ht
  split at hz
  · rename_i x st
    rw [zforce_eq] at hz
    simp only [Option.some.injEq, Prod.mk.injEq] at hz
    obtain ⟨rfl, rfl, rfl, rfl, rfl⟩ := hz
    intro hlen L H locs hl hW hS hb0
    rw [← hlen] at hlt
    exact z_astore hx hb hd hl hlt fun L' h' => kk (by rw [zst_len]; exact hlen) L' H locs h' hW hS hb0
  · cases hz
theorem zx_istore_n {k : Fin 4} (C : zCx p R s m args meth c D cA y) (hc : zchkI y pc (.istore_n k, nxt, aux, pos) = true) (ht : zchkT y (.istore_n k, nxt, aux, pos) = true) (hcs : cells ≤ R.cells ∧ slots ≤ R.slots) (hz : zx (.istore_n k, nxt, aux, pos) ls st M = some (ps, pc', ls', st', M')) (hp : zall ps) (kk : zGo p l e R s m args below meth c Q D cA b0 H0 y cells slots pc' ls' st' M') : zGo p l e R s m args below meth c Q D cA b0 H0 y cells slots pc ls st M := by
  obtain ⟨hx, hb, hml, hown, hts, hK, hin, hR1, hR2, hR3, hR4⟩ := C
  obtain ⟨hd, hn, ho⟩ := zfact hc
  have hd : decode (zcode y) pc = .ok (.istore_n k, 1) := hd
  have hn : nxt = pc + 1 := hn
  subst hn
  unfold zx at hz
  dsimp only at hz
  have hj : (k : Nat) = aux := Nat.eq_of_beq_eq_true ho
  have hlt : aux < zmaxL y := Nat.le_of_ble_eq_true ht
  split at hz
  · rename_i x st
    rw [zforce_eq] at hz
    simp only [Option.some.injEq, Prod.mk.injEq] at hz
    obtain ⟨rfl, rfl, rfl, rfl, rfl⟩ := hz
    intro hlen L H locs hl hW hS hb0
    rw [← hlen] at hlt
    exact lv_istore_n hx hb hd hj hl.has hlt rfl fun L' h' => kk (by rw [zst_len]; exact hlen) L' H locs (zh.st1 (L := L) (v := zi x) (by omega) rfl h') hW hS hb0
  · cases hz
theorem zx_istore {k : Nat} (C : zCx p R s m args meth c D cA y) (hc : zchkI y pc (.istore k, nxt, aux, pos) = true) (ht : zchkT y (.istore k, nxt, aux, pos) = true) (hcs : cells ≤ R.cells ∧ slots ≤ R.slots) (hz : zx (.istore k, nxt, aux, pos) ls st M = some (ps, pc', ls', st', M')) (hp : zall ps) (kk : zGo p l e R s m args below meth c Q D cA b0 H0 y cells slots pc' ls' st' M') : zGo p l e R s m args below meth c Q D cA b0 H0 y cells slots pc ls st M := by
  obtain ⟨hx, hb, hml, hown, hts, hK, hin, hR1, hR2, hR3, hR4⟩ := C
  obtain ⟨hd, hn, ho⟩ := zfact hc
  have hd : decode (zcode y) pc = .ok (.istore k, 2) := hd
  have hn : nxt = pc + 2 := hn
  subst hn
  unfold zx at hz
  dsimp only at hz
  have hj : k = aux := Nat.eq_of_beq_eq_true ho
  subst hj
  have hlt : k < zmaxL y := Nat.le_of_ble_eq_true ht
  split at hz
  · rename_i x st
    rw [zforce_eq] at hz
    simp only [Option.some.injEq, Prod.mk.injEq] at hz
    obtain ⟨rfl, rfl, rfl, rfl, rfl⟩ := hz
    intro hlen L H locs hl hW hS hb0
    rw [← hlen] at hlt
    exact lv_istore hx hb hd hl.has hlt rfl fun L' h' => kk (by rw [zst_len]; exact hlen) L' H locs (zh.st1 (L := L) (v := zi x) (by omega) rfl h') hW hS hb0
  · cases hz
theorem zx_lstore_n {k : Fin 4} (C : zCx p R s m args meth c D cA y) (hc : zchkI y pc (.lstore_n k, nxt, aux, pos) = true) (ht : zchkT y (.lstore_n k, nxt, aux, pos) = true) (hcs : cells ≤ R.cells ∧ slots ≤ R.slots) (hz : zx (.lstore_n k, nxt, aux, pos) ls st M = some (ps, pc', ls', st', M')) (hp : zall ps) (kk : zGo p l e R s m args below meth c Q D cA b0 H0 y cells slots pc' ls' st' M') : zGo p l e R s m args below meth c Q D cA b0 H0 y cells slots pc ls st M := by
  obtain ⟨hx, hb, hml, hown, hts, hK, hin, hR1, hR2, hR3, hR4⟩ := C
  obtain ⟨hd, hn, ho⟩ := zfact hc
  have hd : decode (zcode y) pc = .ok (.lstore_n k, 1) := hd
  have hn : nxt = pc + 1 := hn
  subst hn
  unfold zx at hz
  dsimp only at hz
  have hj : (k : Nat) = aux := Nat.eq_of_beq_eq_true ho
  have hlt : aux + 1 < zmaxL y := Nat.le_of_ble_eq_true ht
  split at hz
  · rename_i x st
    rw [zforce_eq] at hz
    simp only [Option.some.injEq, Prod.mk.injEq] at hz
    obtain ⟨rfl, rfl, rfl, rfl, rfl⟩ := hz
    intro hlen L H locs hl hW hS hb0
    rw [← hlen] at hlt
    exact lv_lstore_n hx hb hd hj hl.has hlt rfl fun L' h' => kk (by rw [zst_len]; exact hlen) L' H locs (zh.st2 (L := L) (v := zl x) (by omega) rfl h') hW hS hb0
  · cases hz
theorem zx_lstore {k : Nat} (C : zCx p R s m args meth c D cA y) (hc : zchkI y pc (.lstore k, nxt, aux, pos) = true) (ht : zchkT y (.lstore k, nxt, aux, pos) = true) (hcs : cells ≤ R.cells ∧ slots ≤ R.slots) (hz : zx (.lstore k, nxt, aux, pos) ls st M = some (ps, pc', ls', st', M')) (hp : zall ps) (kk : zGo p l e R s m args below meth c Q D cA b0 H0 y cells slots pc' ls' st' M') : zGo p l e R s m args below meth c Q D cA b0 H0 y cells slots pc ls st M := by
  obtain ⟨hx, hb, hml, hown, hts, hK, hin, hR1, hR2, hR3, hR4⟩ := C
  obtain ⟨hd, hn, ho⟩ := zfact hc
  have hd : decode (zcode y) pc = .ok (.lstore k, 2) := hd
  have hn : nxt = pc + 2 := hn
  subst hn
  unfold zx at hz
  dsimp only at hz
  have hj : k = aux := Nat.eq_of_beq_eq_true ho
  subst hj
  have hlt : k + 1 < zmaxL y := Nat.le_of_ble_eq_true ht
  split at hz
  · rename_i x st
    rw [zforce_eq] at hz
    simp only [Option.some.injEq, Prod.mk.injEq] at hz
    obtain ⟨rfl, rfl, rfl, rfl, rfl⟩ := hz
    intro hlen L H locs hl hW hS hb0
    rw [← hlen] at hlt
    exact lv_lstore hx hb hd hl.has hlt rfl fun L' h' => kk (by rw [zst_len]; exact hlen) L' H locs (zh.st2 (L := L) (v := zl x) (by omega) rfl h') hW hS hb0
  · cases hz
theorem zx_fstore_n {k : Fin 4} (C : zCx p R s m args meth c D cA y) (hc : zchkI y pc (.fstore_n k, nxt, aux, pos) = true) (ht : zchkT y (.fstore_n k, nxt, aux, pos) = true) (hcs : cells ≤ R.cells ∧ slots ≤ R.slots) (hz : zx (.fstore_n k, nxt, aux, pos) ls st M = some (ps, pc', ls', st', M')) (hp : zall ps) (kk : zGo p l e R s m args below meth c Q D cA b0 H0 y cells slots pc' ls' st' M') : zGo p l e R s m args below meth c Q D cA b0 H0 y cells slots pc ls st M := by
  obtain ⟨hx, hb, hml, hown, hts, hK, hin, hR1, hR2, hR3, hR4⟩ := C
  obtain ⟨hd, hn, ho⟩ := zfact hc
  have hd : decode (zcode y) pc = .ok (.fstore_n k, 1) := hd
  have hn : nxt = pc + 1 := hn
  subst hn
  unfold zx at hz
  dsimp only at hz
  have hj : (k : Nat) = aux := Nat.eq_of_beq_eq_true ho
  have hlt : aux < zmaxL y := Nat.le_of_ble_eq_true ht
  split at hz
  · rename_i x st
    rw [zforce_eq] at hz
    simp only [Option.some.injEq, Prod.mk.injEq] at hz
    obtain ⟨rfl, rfl, rfl, rfl, rfl⟩ := hz
    intro hlen L H locs hl hW hS hb0
    rw [← hlen] at hlt
    exact lv_fstore_n hx hb hd hj hl.has hlt rfl fun L' h' => kk (by rw [zst_len]; exact hlen) L' H locs (zh.st1 (L := L) (v := zf x) (by omega) rfl h') hW hS hb0
  · cases hz
theorem zx_fstore {k : Nat} (C : zCx p R s m args meth c D cA y) (hc : zchkI y pc (.fstore k, nxt, aux, pos) = true) (ht : zchkT y (.fstore k, nxt, aux, pos) = true) (hcs : cells ≤ R.cells ∧ slots ≤ R.slots) (hz : zx (.fstore k, nxt, aux, pos) ls st M = some (ps, pc', ls', st', M')) (hp : zall ps) (kk : zGo p l e R s m args below meth c Q D cA b0 H0 y cells slots pc' ls' st' M') : zGo p l e R s m args below meth c Q D cA b0 H0 y cells slots pc ls st M := by
  obtain ⟨hx, hb, hml, hown, hts, hK, hin, hR1, hR2, hR3, hR4⟩ := C
  obtain ⟨hd, hn, ho⟩ := zfact hc
  have hd : decode (zcode y) pc = .ok (.fstore k, 2) := hd
  have hn : nxt = pc + 2 := hn
  subst hn
  unfold zx at hz
  dsimp only at hz
  have hj : k = aux := Nat.eq_of_beq_eq_true ho
  subst hj
  have hlt : k < zmaxL y := Nat.le_of_ble_eq_true ht
  split at hz
  · rename_i x st
    rw [zforce_eq] at hz
    simp only [Option.some.injEq, Prod.mk.injEq] at hz
    obtain ⟨rfl, rfl, rfl, rfl, rfl⟩ := hz
    intro hlen L H locs hl hW hS hb0
    rw [← hlen] at hlt
    exact lv_fstore hx hb hd hl.has hlt rfl fun L' h' => kk (by rw [zst_len]; exact hlen) L' H locs (zh.st1 (L := L) (v := zf x) (by omega) rfl h') hW hS hb0
  · cases hz
theorem zx_dstore_n {k : Fin 4} (C : zCx p R s m args meth c D cA y) (hc : zchkI y pc (.dstore_n k, nxt, aux, pos) = true) (ht : zchkT y (.dstore_n k, nxt, aux, pos) = true) (hcs : cells ≤ R.cells ∧ slots ≤ R.slots) (hz : zx (.dstore_n k, nxt, aux, pos) ls st M = some (ps, pc', ls', st', M')) (hp : zall ps) (kk : zGo p l e R s m args below meth c Q D cA b0 H0 y cells slots pc' ls' st' M') : zGo p l e R s m args below meth c Q D cA b0 H0 y cells slots pc ls st M := by
  obtain ⟨hx, hb, hml, hown, hts, hK, hin, hR1, hR2, hR3, hR4⟩ := C
  obtain ⟨hd, hn, ho⟩ := zfact hc
  have hd : decode (zcode y) pc = .ok (.dstore_n k, 1) := hd
  have hn : nxt = pc + 1 := hn
  subst hn
  unfold zx at hz
  dsimp only at hz
  have hj : (k : Nat) = aux := Nat.eq_of_beq_eq_true ho
  have hlt : aux + 1 < zmaxL y := Nat.le_of_ble_eq_true ht
  split at hz
  · rename_i x st
    rw [zforce_eq] at hz
    simp only [Option.some.injEq, Prod.mk.injEq] at hz
    obtain ⟨rfl, rfl, rfl, rfl, rfl⟩ := hz
    intro hlen L H locs hl hW hS hb0
    rw [← hlen] at hlt
    exact lv_dstore_n hx hb hd hj hl.has hlt rfl fun L' h' => kk (by rw [zst_len]; exact hlen) L' H locs (zh.st2 (L := L) (v := zd x) (by omega) rfl h') hW hS hb0
  · cases hz
theorem zx_dstore {k : Nat} (C : zCx p R s m args meth c D cA y) (hc : zchkI y pc (.dstore k, nxt, aux, pos) = true) (ht : zchkT y (.dstore k, nxt, aux, pos) = true) (hcs : cells ≤ R.cells ∧ slots ≤ R.slots) (hz : zx (.dstore k, nxt, aux, pos) ls st M = some (ps, pc', ls', st', M')) (hp : zall ps) (kk : zGo p l e R s m args below meth c Q D cA b0 H0 y cells slots pc' ls' st' M') : zGo p l e R s m args below meth c Q D cA b0 H0 y cells slots pc ls st M := by
  obtain ⟨hx, hb, hml, hown, hts, hK, hin, hR1, hR2, hR3, hR4⟩ := C
  obtain ⟨hd, hn, ho⟩ := zfact hc
  have hd : decode (zcode y) pc = .ok (.dstore k, 2) := hd
  have hn : nxt = pc + 2 := hn
  subst hn
  unfold zx at hz
  dsimp only at hz
  have hj : k = aux := Nat.eq_of_beq_eq_true ho
  subst hj
  have hlt : k + 1 < zmaxL y := Nat.le_of_ble_eq_true ht
  split at hz
  · rename_i x st
    rw [zforce_eq] at hz
    simp only [Option.some.injEq, Prod.mk.injEq] at hz
    obtain ⟨rfl, rfl, rfl, rfl, rfl⟩ := hz
    intro hlen L H locs hl hW hS hb0
    rw [← hlen] at hlt
    exact lv_dstore hx hb hd hl.has hlt rfl fun L' h' => kk (by rw [zst_len]; exact hlen) L' H locs (zh.st2 (L := L) (v := zd x) (by omega) rfl h') hW hS hb0
  · cases hz
theorem zx_iinc {k : Nat} {n : Int} (C : zCx p R s m args meth c D cA y) (hc : zchkI y pc (.iinc k n, nxt, aux, pos) = true) (ht : zchkT y (.iinc k n, nxt, aux, pos) = true) (hcs : cells ≤ R.cells ∧ slots ≤ R.slots) (hz : zx (.iinc k n, nxt, aux, pos) ls st M = some (ps, pc', ls', st', M')) (hp : zall ps) (kk : zGo p l e R s m args below meth c Q D cA b0 H0 y cells slots pc' ls' st' M') : zGo p l e R s m args below meth c Q D cA b0 H0 y cells slots pc ls st M := by
  obtain ⟨hx, hb, hml, hown, hts, hK, hin, hR1, hR2, hR3, hR4⟩ := C
  obtain ⟨hd, hn, ho⟩ := zfact hc
  have hd : decode (zcode y) pc = .ok (.iinc k n, 3) := hd
  have hn : nxt = pc + 3 := hn
  subst hn
  unfold zx at hz
  dsimp only at hz
  simp only [zchkO, Bool.and_eq_true, decide_eq_true_eq] at ho
  obtain ⟨hj, hv⟩ := ho
  have hj : k = aux := Nat.eq_of_beq_eq_true hj
  subst hj
  split at hz
  · rename_i x hg
    rw [zforce_eq] at hz
    simp only [Option.some.injEq, Prod.mk.injEq] at hz
    obtain ⟨rfl, rfl, rfl, rfl, rfl⟩ := hz
    intro hlen L H locs hl hW hS hb0
    rw [hv] at kk
    exact z_iinc hx hb hd hl hg fun L' h' => kk (by rw [zst_len]; exact hlen) L' H locs h' hW hS hb0
  · cases hz
theorem zx_iconst {n : Int} (C : zCx p R s m args meth c D cA y) (hc : zchkI y pc (.iconst n, nxt, aux, pos) = true) (ht : zchkT y (.iconst n, nxt, aux, pos) = true) (hcs : cells ≤ R.cells ∧ slots ≤ R.slots) (hz : zx (.iconst n, nxt, aux, pos) ls st M = some (ps, pc', ls', st', M')) (hp : zall ps) (kk : zGo p l e R s m args below meth c Q D cA b0 H0 y cells slots pc' ls' st' M') : zGo p l e R s m args below meth c Q D cA b0 H0 y cells slots pc ls st M := by
  obtain ⟨hx, hb, hml, hown, hts, hK, hin, hR1, hR2, hR3, hR4⟩ := C
  obtain ⟨hd, hn, ho⟩ := zfact hc
  have hd : decode (zcode y) pc = .ok (.iconst n, 1) := hd
  have hn : nxt = pc + 1 := hn
  subst hn
  unfold zx at hz
  dsimp only at hz
  simp only [zchkO, decide_eq_true_eq] at ho
  simp only [Option.some.injEq, Prod.mk.injEq] at hz
  obtain ⟨rfl, rfl, rfl, rfl, rfl⟩ := hz
  intro hlen L H locs hl hW hS hb0
  exact lv_iconst hx hb hd ho (kk hlen L H locs hl hW hS hb0)
theorem zx_bipush {n : Int} (C : zCx p R s m args meth c D cA y) (hc : zchkI y pc (.bipush n, nxt, aux, pos) = true) (ht : zchkT y (.bipush n, nxt, aux, pos) = true) (hcs : cells ≤ R.cells ∧ slots ≤ R.slots) (hz : zx (.bipush n, nxt, aux, pos) ls st M = some (ps, pc', ls', st', M')) (hp : zall ps) (kk : zGo p l e R s m args below meth c Q D cA b0 H0 y cells slots pc' ls' st' M') : zGo p l e R s m args below meth c Q D cA b0 H0 y cells slots pc ls st M := by
  obtain ⟨hx, hb, hml, hown, hts, hK, hin, hR1, hR2, hR3, hR4⟩ := C
  obtain ⟨hd, hn, ho⟩ := zfact hc
  have hd : decode (zcode y) pc = .ok (.bipush n, 2) := hd
  have hn : nxt = pc + 2 := hn
  subst hn
  unfold zx at hz
  dsimp only at hz
  simp only [zchkO, decide_eq_true_eq] at ho
  simp only [Option.some.injEq, Prod.mk.injEq] at hz
  obtain ⟨rfl, rfl, rfl, rfl, rfl⟩ := hz
  intro hlen L H locs hl hW hS hb0
  exact lv_bipush hx hb hd ho (kk hlen L H locs hl hW hS hb0)
theorem zx_sipush {n : Int} (C : zCx p R s m args meth c D cA y) (hc : zchkI y pc (.sipush n, nxt, aux, pos) = true) (ht : zchkT y (.sipush n, nxt, aux, pos) = true) (hcs : cells ≤ R.cells ∧ slots ≤ R.slots) (hz : zx (.sipush n, nxt, aux, pos) ls st M = some (ps, pc', ls', st', M')) (hp : zall ps) (kk : zGo p l e R s m args below meth c Q D cA b0 H0 y cells slots pc' ls' st' M') : zGo p l e R s m args below meth c Q D cA b0 H0 y cells slots pc ls st M := by
  obtain ⟨hx, hb, hml, hown, hts, hK, hin, hR1, hR2, hR3, hR4⟩ := C
  obtain ⟨hd, hn, ho⟩ := zfact hc
  have hd : decode (zcode y) pc = .ok (.sipush n, 3) := hd
  have hn : nxt = pc + 3 := hn
  subst hn
  unfold zx at hz
  dsimp only at hz
  simp only [zchkO, decide_eq_true_eq] at ho
  simp only [Option.some.injEq, Prod.mk.injEq] at hz
  obtain ⟨rfl, rfl, rfl, rfl, rfl⟩ := hz
  intro hlen L H locs hl hW hS hb0
  exact lv_sipush hx hb hd ho (kk hlen L H locs hl hW hS hb0)
theorem zx_lconst {n : Fin 2} (C : zCx p R s m args meth c D cA y) (hc : zchkI y pc (.lconst n, nxt, aux, pos) = true) (ht : zchkT y (.lconst n, nxt, aux, pos) = true) (hcs : cells ≤ R.cells ∧ slots ≤ R.slots) (hz : zx (.lconst n, nxt, aux, pos) ls st M = some (ps, pc', ls', st', M')) (hp : zall ps) (kk : zGo p l e R s m args below meth c Q D cA b0 H0 y cells slots pc' ls' st' M') : zGo p l e R s m args below meth c Q D cA b0 H0 y cells slots pc ls st M := by
  obtain ⟨hx, hb, hml, hown, hts, hK, hin, hR1, hR2, hR3, hR4⟩ := C
  obtain ⟨hd, hn, ho⟩ := zfact hc
  have hd : decode (zcode y) pc = .ok (.lconst n, 1) := hd
  have hn : nxt = pc + 1 := hn
  subst hn
  unfold zx at hz
  dsimp only at hz
  simp only [Option.some.injEq, Prod.mk.injEq] at hz
  obtain ⟨rfl, rfl, rfl, rfl, rfl⟩ := hz
  intro hlen L H locs hl hW hS hb0
  exact lv_lconst hx hb hd rfl (kk hlen L H locs hl hW hS hb0)
theorem zx_ldc2 {n : Nat} (C : zCx p R s m args meth c D cA y) (hc : zchkI y pc (.ldc2_w n, nxt, aux, pos) = true) (ht : zchkT y (.ldc2_w n, nxt, aux, pos) = true) (hcs : cells ≤ R.cells ∧ slots ≤ R.slots) (hz : zx (.ldc2_w n, nxt, aux, pos) ls st M = some (ps, pc', ls', st', M')) (hp : zall ps) (kk : zGo p l e R s m args below meth c Q D cA b0 H0 y cells slots pc' ls' st' M') : zGo p l e R s m args below meth c Q D cA b0 H0 y cells slots pc ls st M := by
  obtain ⟨hx, hb, hml, hown, hts, hK, hin, hR1, hR2, hR3, hR4⟩ := C
  obtain ⟨hd, hn, ho⟩ := zfact hc
  have hd : decode (zcode y) pc = .ok (.ldc2_w n, 3) := hd
  have hn : nxt = pc + 3 := hn
  subst hn
  unfold zx at hz
  dsimp only at hz
  have hw := hts _ (zwd_in ho)
  simp only [Option.some.injEq, Prod.mk.injEq] at hz
  obtain ⟨rfl, rfl, rfl, rfl, rfl⟩ := hz
  intro hlen L H locs hl hW hS hb0
  exact lv_ldc2 hx hb hown hw hd (kk hlen L H locs hl hW hS hb0)
theorem zx_fconst {k : Fin 3} (C : zCx p R s m args meth c D cA y) (hc : zchkI y pc (.fconst k, nxt, aux, pos) = true) (ht : zchkT y (.fconst k, nxt, aux, pos) = true) (hcs : cells ≤ R.cells ∧ slots ≤ R.slots) (hz : zx (.fconst k, nxt, aux, pos) ls st M = some (ps, pc', ls', st', M')) (hp : zall ps) (kk : zGo p l e R s m args below meth c Q D cA b0 H0 y cells slots pc' ls' st' M') : zGo p l e R s m args below meth c Q D cA b0 H0 y cells slots pc ls st M := by
  obtain ⟨hx, hb, hml, hown, hts, hK, hin, hR1, hR2, hR3, hR4⟩ := C
  obtain ⟨hd, hn, ho⟩ := zfact hc
  have hd : decode (zcode y) pc = .ok (.fconst k, 1) := hd
  have hn : nxt = pc + 1 := hn
  subst hn
  unfold zx at hz
  dsimp only at hz
  have hj : (k : Nat) = 0 := Nat.eq_of_beq_eq_true ho
  obtain rfl : k = 0 := Fin.ext hj
  simp only [Option.some.injEq, Prod.mk.injEq] at hz
  obtain ⟨rfl, rfl, rfl, rfl, rfl⟩ := hz
  intro hlen L H locs hl hW hS hb0
  exact lv_fconst0 hx hb hd (kk hlen L H locs hl hW hS hb0)
theorem zx_dconst {k : Fin 2} (C : zCx p R s m args meth c D cA y) (hc : zchkI y pc (.dconst k, nxt, aux, pos) = true) (ht : zchkT y (.dconst k, nxt, aux, pos) = true) (hcs : cells ≤ R.cells ∧ slots ≤ R.slots) (hz : zx (.dconst k, nxt, aux, pos) ls st M = some (ps, pc', ls', st', M')) (hp : zall ps) (kk : zGo p l e R s m args below meth c Q D cA b0 H0 y cells slots pc' ls' st' M') : zGo p l e R s m args below meth c Q D cA b0 H0 y cells slots pc ls st M := by
  obtain ⟨hx, hb, hml, hown, hts, hK, hin, hR1, hR2, hR3, hR4⟩ := C
  obtain ⟨hd, hn, ho⟩ := zfact hc
  have hd : decode (zcode y) pc = .ok (.dconst k, 1) := hd
  have hn : nxt = pc + 1 := hn
  subst hn
  unfold zx at hz
  dsimp only at hz
  have hj : (k : Nat) = 0 := Nat.eq_of_beq_eq_true ho
  obtain rfl : k = 0 := Fin.ext hj
  simp only [Option.some.injEq, Prod.mk.injEq] at hz
  obtain ⟨rfl, rfl, rfl, rfl, rfl⟩ := hz
  intro hlen L H locs hl hW hS hb0
  exact lv_dconst0 hx hb hd (kk hlen L H locs hl hW hS hb0)
theorem zx_ldcw {n : Nat} (C : zCx p R s m args meth c D cA y) (hc : zchkI y pc (.ldc_w n, nxt, aux, pos) = true) (ht : zchkT y (.ldc_w n, nxt, aux, pos) = true) (hcs : cells ≤ R.cells ∧ slots ≤ R.slots) (hz : zx (.ldc_w n, nxt, aux, pos) ls st M = some (ps, pc', ls', st', M')) (hp : zall ps) (kk : zGo p l e R s m args below meth c Q D cA b0 H0 y cells slots pc' ls' st' M') : zGo p l e R s m args below meth c Q D cA b0 H0 y cells slots pc ls st M := by
  obtain ⟨hx, hb, hml, hown, hts, hK, hin, hR1, hR2, hR3, hR4⟩ := C
  obtain ⟨hd, hn, ho⟩ := zfact hc
  have hd : decode (zcode y) pc = .ok (.ldc_w n, 3) := hd
  have hn : nxt = pc + 3 := hn
  subst hn
  unfold zx at hz
  dsimp only at hz
  simp only [zchkO, Bool.or_eq_true] at ho
  cases hq : Nat.beq pos 0
  · rw [hq] at hz ho
    have hw := hts _ (zwd_in (ho.resolve_left (by simp)))
    simp only [cond_false, Option.some.injEq, Prod.mk.injEq] at hz
    obtain ⟨rfl, rfl, rfl, rfl, rfl⟩ := hz
    intro hlen L H locs hl hW hS hb0
    exact lv_ldcw hx hb hown hw hd (kk hlen L H locs hl hW hS hb0)
  · rw [hq] at hz
    cases hz
theorem zx_ldc1 {n : Nat} (C : zCx p R s m args meth c D cA y) (hc : zchkI y pc (.ldc n, nxt, aux, pos) = true) (ht : zchkT y (.ldc n, nxt, aux, pos) = true) (hcs : cells ≤ R.cells ∧ slots ≤ R.slots) (hz : zx (.ldc n, nxt, aux, pos) ls st M = some (ps, pc', ls', st', M')) (hp : zall ps) (kk : zGo p l e R s m args below meth c Q D cA b0 H0 y cells slots pc' ls' st' M') : zGo p l e R s m args below meth c Q D cA b0 H0 y cells slots pc ls st M := by
  obtain ⟨hx, hb, hml, hown, hts, hK, hin, hR1, hR2, hR3, hR4⟩ := C
  obtain ⟨hd, hn, ho⟩ := zfact hc
  have hd : decode (zcode y) pc = .ok (.ldc n, 2) := hd
  have hn : nxt = pc + 2 := hn
  subst hn
  unfold zx at hz
  dsimp only at hz
  simp only [zchkT, Bool.or_eq_true] at ht
  cases hq : Nat.beq pos 0
  · rw [hq] at hz ht
    have hw := hts _ (zwd_in (ht.resolve_left (by simp)))
    simp only [cond_false, Option.some.injEq, Prod.mk.injEq] at hz
    obtain ⟨rfl, rfl, rfl, rfl, rfl⟩ := hz
    intro hlen L H locs hl hW hS hb0
    exact lv_ldc hx hb hown hw hd (kk hlen L H locs hl hW hS hb0)
  · rw [hq] at hz
    cases hz
theorem zx_dup  (C : zCx p R s m args meth c D cA y) (hc : zchkI y pc (.dup, nxt, aux, pos) = true) (ht : zchkT y (.dup, nxt, aux, pos) = true) (hcs : cells ≤ R.cells ∧ slots ≤ R.slots) (hz : zx (.dup, nxt, aux, pos) ls st M = some (ps, pc', ls', st', M')) (hp : zall ps) (kk : zGo p l e R s m args below meth c Q D cA b0 H0 y cells slots pc' ls' st' M') : zGo p l e R s m args below meth c Q D cA b0 H0 y cells slots pc ls st M := by
  obtain ⟨hx, hb, hml, hown, hts, hK, hin, hR1, hR2, hR3, hR4⟩ := C
  obtain ⟨hd, hn, ho⟩ := zfact hc
  have hd : decode (zcode y) pc = .ok (.dup, 1) := hd
  have hn : nxt = pc + 1 := hn
  subst hn
  unfold zx at hz
  dsimp only at hz
  split at hz
  · rename_i v st
    cases hv : zc2 v
    · rw [hv] at hz
      simp only [cond_false, Option.some.injEq, Prod.mk.injEq] at hz
      obtain ⟨rfl, rfl, rfl, rfl, rfl⟩ := hz
      intro hlen L H locs hl hW hS hb0
      exact lv_dup hx hb hd (by rw [zv_cat, hv]; rfl) (kk hlen L H locs hl hW hS hb0)
    · rw [hv] at hz
      cases hz
  · cases hz
theorem zx_pop  (C : zCx p R s m args meth c D cA y) (hc : zchkI y pc (.pop, nxt, aux, pos) = true) (ht : zchkT y (.pop, nxt, aux, pos) = true) (hcs : cells ≤ R.cells ∧ slots ≤ R.slots) (hz : zx (.pop, nxt, aux, pos) ls st M = some (ps, pc', ls', st', M')) (hp : zall ps) (kk : zGo p l e R s m args below meth c Q D cA b0 H0 y cells slots pc' ls' st' M') : zGo p l e R s m args below meth c Q D cA b0 H0 y cells slots pc ls st M := by
  obtain ⟨hx, hb, hml, hown, hts, hK, hin, hR1, hR2, hR3, hR4⟩ := C
  obtain ⟨hd, hn, ho⟩ := zfact hc
  have hd : decode (zcode y) pc = .ok (.pop, 1) := hd
  have hn : nxt = pc + 1 := hn
  subst hn
  unfold zx at hz
  dsimp only at hz
  split at hz
  · rename_i v st
    cases hv : zc2 v
    · rw [hv] at hz
      simp only [cond_false, Option.some.injEq, Prod.mk.injEq] at hz
      obtain ⟨rfl, rfl, rfl, rfl, rfl⟩ := hz
      intro hlen L H locs hl hW hS hb0
      exact lv_pop hx hb hd (by rw [zv_cat, hv]; rfl) (kk hlen L H locs hl hW hS hb0)
    · rw [hv] at hz
      cases hz
  · cases hz
theorem zx_dup2  (C : zCx p R s m args meth c D cA y) (hc : zchkI y pc (.dup2, nxt, aux, pos) = true) (ht : zchkT y (.dup2, nxt, aux, pos) = true) (hcs : cells ≤ R.cells ∧ slots ≤ R.slots) (hz : zx (.dup2, nxt, aux, pos) ls st M = some (ps, pc', ls', st', M')) (hp : zall ps) (kk : zGo p l e R s m args below meth c Q D cA b0 H0 y cells slots pc' ls' st' M') : zGo p l e R s m args below meth c Q D cA b0 H0 y cells slots pc ls st M := by
  obtain ⟨hx, hb, hml, hown, hts, hK, hin, hR1, hR2, hR3, hR4⟩ := C
  obtain ⟨hd, hn, ho⟩ := zfact hc
  have hd : decode (zcode y) pc = .ok (.dup2, 1) := hd
  have hn : nxt = pc + 1 := hn
  subst hn
  unfold zx at hz
  dsimp only at hz
  split at hz
  · rename_i v st
    cases hv : zc2 v
    · rw [hv] at hz
      simp only [cond_false] at hz
      split at hz
      · rename_i u st
        cases hu : zc2 u
        · rw [hu] at hz
          simp only [cond_false, Option.some.injEq, Prod.mk.injEq] at hz
          obtain ⟨rfl, rfl, rfl, rfl, rfl⟩ := hz
          intro hlen L H locs hl hW hS hb0
          exact lv_dup2_11 hx hb hd (by rw [zv_cat, hv]; rfl) (by rw [zv_cat, hu]; rfl) (kk hlen L H locs hl hW hS hb0)
        · rw [hu] at hz
          cases hz
      · cases hz
    · rw [hv] at hz
      simp only [cond_true, Option.some.injEq, Prod.mk.injEq] at hz
      obtain ⟨rfl, rfl, rfl, rfl, rfl⟩ := hz
      intro hlen L H locs hl hW hS hb0
      exact lv_dup2_2 hx hb hd (by rw [zv_cat, hv]; rfl) (kk hlen L H locs hl hW hS hb0)
  · cases hz
theorem zx_iadd  (C : zCx p R s m args meth c D cA y) (hc : zchkI y pc (.iadd, nxt, aux, pos) = true) (ht : zchkT y (.iadd, nxt, aux, pos) = true) (hcs : cells ≤ R.cells ∧ slots ≤ R.slots) (hz : zx (.iadd, nxt, aux, pos) ls st M = some (ps, pc', ls', st', M')) (hp : zall ps) (kk : zGo p l e R s m args below meth c Q D cA b0 H0 y cells slots pc' ls' st' M') : zGo p l e R s m args below meth c Q D cA b0 H0 y cells slots pc ls st M := by
  obtain ⟨hx, hb, hml, hown, hts, hK, hin, hR1, hR2, hR3, hR4⟩ := C
  obtain ⟨hd, hn, ho⟩ := zfact hc
  have hd : decode (zcode y) pc = .ok (.iadd, 1) := hd
  have hn : nxt = pc + 1 := hn
  subst hn
  unfold zx at hz
  dsimp only at hz
  split at hz
  · simp only [Option.some.injEq, Prod.mk.injEq] at hz
    obtain ⟨rfl, rfl, rfl, rfl, rfl⟩ := hz
    intro hlen L H locs hl hW hS hb0
    exact lv_iadd hx hb hd (kk hlen L H locs hl hW hS hb0)
  · cases hz
theorem zx_isub  (C : zCx p R s m args meth c D cA y) (hc : zchkI y pc (.isub, nxt, aux, pos) = true) (ht : zchkT y (.isub, nxt, aux, pos) = true) (hcs : cells ≤ R.cells ∧ slots ≤ R.slots) (hz : zx (.isub, nxt, aux, pos) ls st M = some (ps, pc', ls', st', M')) (hp : zall ps) (kk : zGo p l e R s m args below meth c Q D cA b0 H0 y cells slots pc' ls' st' M') : zGo p l e R s m args below meth c Q D cA b0 H0 y cells slots pc ls st M := by
  obtain ⟨hx, hb, hml, hown, hts, hK, hin, hR1, hR2, hR3, hR4⟩ := C
  obtain ⟨hd, hn, ho⟩ := zfact hc
  have hd : decode (zcode y) pc = .ok (.isub, 1) := hd
  have hn : nxt = pc + 1 := hn
  subst hn
  unfold zx at hz
  dsimp only at hz
  split at hz
  · simp only [Option.some.injEq, Prod.mk.injEq] at hz
    obtain ⟨rfl, rfl, rfl, rfl, rfl⟩ := hz
    intro hlen L H locs hl hW hS hb0
    exact lv_isub hx hb hd (kk hlen L H locs hl hW hS hb0)
  · cases hz
theorem zx_imul  (C : zCx p R s m args meth c D cA y) (hc : zchkI y pc (.imul, nxt, aux, pos) = true) (ht : zchkT y (.imul, nxt, aux, pos) = true) (hcs : cells ≤ R.cells ∧ slots ≤ R.slots) (hz : zx (.imul, nxt, aux, pos) ls st M = some (ps, pc', ls', st', M')) (hp : zall ps) (kk : zGo p l e R s m args below meth c Q D cA b0 H0 y cells slots pc' ls' st' M') : zGo p l e R s m args below meth c Q D cA b0 H0 y cells slots pc ls st M := by
  obtain ⟨hx, hb, hml, hown, hts, hK, hin, hR1, hR2, hR3, hR4⟩ := C
  obtain ⟨hd, hn, ho⟩ := zfact hc
  have hd : decode (zcode y) pc = .ok (.imul, 1) := hd
  have hn : nxt = pc + 1 := hn
  subst hn
  unfold zx at hz
  dsimp only at hz
  split at hz
  · simp only [Option.some.injEq, Prod.mk.injEq] at hz
    obtain ⟨rfl, rfl, rfl, rfl, rfl⟩ := hz
    intro hlen L H locs hl hW hS hb0
    exact lv_imul hx hb hd (kk hlen L H locs hl hW hS hb0)
  · cases hz
theorem zx_iand  (C : zCx p R s m args meth c D cA y) (hc : zchkI y pc (.iand, nxt, aux, pos) = true) (ht : zchkT y (.iand, nxt, aux, pos) = true) (hcs : cells ≤ R.cells ∧ slots ≤ R.slots) (hz : zx (.iand, nxt, aux, pos) ls st M = some (ps, pc', ls', st', M')) (hp : zall ps) (kk : zGo p l e R s m args below meth c Q D cA b0 H0 y cells slots pc' ls' st' M') : zGo p l e R s m args below meth c Q D cA b0 H0 y cells slots pc ls st M := by
  obtain ⟨hx, hb, hml, hown, hts, hK, hin, hR1, hR2, hR3, hR4⟩ := C
  obtain ⟨hd, hn, ho⟩ := zfact hc
  have hd : decode (zcode y) pc = .ok (.iand, 1) := hd
  have hn : nxt = pc + 1 := hn
  subst hn
  unfold zx at hz
  dsimp only at hz
  split at hz
  · simp only [Option.some.injEq, Prod.mk.injEq] at hz
    obtain ⟨rfl, rfl, rfl, rfl, rfl⟩ := hz
    intro hlen L H locs hl hW hS hb0
    exact lv_iand hx hb hd (kk hlen L H locs hl hW hS hb0)
  · cases hz
theorem zx_ior  (C : zCx p R s m args meth c D cA y) (hc : zchkI y pc (.ior, nxt, aux, pos) = true) (ht : zchkT y (.ior, nxt, aux, pos) = true) (hcs : cells ≤ R.cells ∧ slots ≤ R.slots) (hz : zx (.ior, nxt, aux, pos) ls st M = some (ps, pc', ls', st', M')) (hp : zall ps) (kk : zGo p l e R s m args below meth c Q D cA b0 H0 y cells slots pc' ls' st' M') : zGo p l e R s m args below meth c Q D cA b0 H0 y cells slots pc ls st M := by
  obtain ⟨hx, hb, hml, hown, hts, hK, hin, hR1, hR2, hR3, hR4⟩ := C
  obtain ⟨hd, hn, ho⟩ := zfact hc
  have hd : decode (zcode y) pc = .ok (.ior, 1) := hd
  have hn : nxt = pc + 1 := hn
  subst hn
  unfold zx at hz
  dsimp only at hz
  split at hz
  · simp only [Option.some.injEq, Prod.mk.injEq] at hz
    obtain ⟨rfl, rfl, rfl, rfl, rfl⟩ := hz
    intro hlen L H locs hl hW hS hb0
    exact lv_ior hx hb hd (kk hlen L H locs hl hW hS hb0)
  · cases hz
theorem zx_ixor  (C : zCx p R s m args meth c D cA y) (hc : zchkI y pc (.ixor, nxt, aux, pos) = true) (ht : zchkT y (.ixor, nxt, aux, pos) = true) (hcs : cells ≤ R.cells ∧ slots ≤ R.slots) (hz : zx (.ixor, nxt, aux, pos) ls st M = some (ps, pc', ls', st', M')) (hp : zall ps) (kk : zGo p l e R s m args below meth c Q D cA b0 H0 y cells slots pc' ls' st' M') : zGo p l e R s m args below meth c Q D cA b0 H0 y cells slots pc ls st M := by
  obtain ⟨hx, hb, hml, hown, hts, hK, hin, hR1, hR2, hR3, hR4⟩ := C
  obtain ⟨hd, hn, ho⟩ := zfact hc
  have hd : decode (zcode y) pc = .ok (.ixor, 1) := hd
  have hn : nxt = pc + 1 := hn
  subst hn
  unfold zx at hz
  dsimp only at hz
  split at hz
  · simp only [Option.some.injEq, Prod.mk.injEq] at hz
    obtain ⟨rfl, rfl, rfl, rfl, rfl⟩ := hz
    intro hlen L H locs hl hW hS hb0
    exact lv_ixor hx hb hd (kk hlen L H locs hl hW hS hb0)
  · cases hz
theorem zx_ineg  (C : zCx p R s m args meth c D cA y) (hc : zchkI y pc (.ineg, nxt, aux, pos) = true) (ht : zchkT y (.ineg, nxt, aux, pos) = true) (hcs : cells ≤ R.cells ∧ slots ≤ R.slots) (hz : zx (.ineg, nxt, aux, pos) ls st M = some (ps, pc', ls', st', M')) (hp : zall ps) (kk : zGo p l e R s m args below meth c Q D cA b0 H0 y cells slots pc' ls' st' M') : zGo p l e R s m args below meth c Q D cA b0 H0 y cells slots pc ls st M := by
  obtain ⟨hx, hb, hml, hown, hts, hK, hin, hR1, hR2, hR3, hR4⟩ := C
  obtain ⟨hd, hn, ho⟩ := zfact hc
  have hd : decode (zcode y) pc = .ok (.ineg, 1) := hd
  have hn : nxt = pc + 1 := hn
  subst hn
  unfold zx at hz
  dsimp only at hz
  split at hz
  · simp only [Option.some.injEq, Prod.mk.injEq] at hz
    obtain ⟨rfl, rfl, rfl, rfl, rfl⟩ := hz
    intro hlen L H locs hl hW hS hb0
    exact lv_ineg hx hb hd (kk hlen L H locs hl hW hS hb0)
  · cases hz
theorem zx_ladd  (C : zCx p R s m args meth c D cA y) (hc : zchkI y pc (.ladd, nxt, aux, pos) = true) (ht : zchkT y (.ladd, nxt, aux, pos) = true) (hcs : cells ≤ R.cells ∧ slots ≤ R.slots) (hz : zx (.ladd, nxt, aux, pos) ls st M = some (ps, pc', ls', st', M')) (hp : zall ps) (kk : zGo p l e R s m args below meth c Q D cA b0 H0 y cells slots pc' ls' st' M') : zGo p l e R s m args below meth c Q D cA b0 H0 y cells slots pc ls st M := by
  obtain ⟨hx, hb, hml, hown, hts, hK, hin, hR1, hR2, hR3, hR4⟩ := C
  obtain ⟨hd, hn, ho⟩ := zfact hc
  have hd : decode (zcode y) pc = .ok (.ladd, 1) := hd
  have hn : nxt = pc + 1 := hn
  subst hn
  unfold zx at hz
  dsimp only at hz
  split at hz
  · simp only [Option.some.injEq, Prod.mk.injEq] at hz
    obtain ⟨rfl, rfl, rfl, rfl, rfl⟩ := hz
    intro hlen L H locs hl hW hS hb0
    exact lv_ladd hx hb hd (kk hlen L H locs hl hW hS hb0)
  · cases hz
theorem zx_lsub  (C : zCx p R s m args meth c D cA y) (hc : zchkI y pc (.lsub, nxt, aux, pos) = true) (ht : zchkT y (.lsub, nxt, aux, pos) = true) (hcs : cells ≤ R.cells ∧ slots ≤ R.slots) (hz : zx (.lsub, nxt, aux, pos) ls st M = some (ps, pc', ls', st', M')) (hp : zall ps) (kk : zGo p l e R s m args below meth c Q D cA b0 H0 y cells slots pc' ls' st' M') : zGo p l e R s m args below meth c Q D cA b0 H0 y cells slots pc ls st M := by
  obtain ⟨hx, hb, hml, hown, hts, hK, hin, hR1, hR2, hR3, hR4⟩ := C
  obtain ⟨hd, hn, ho⟩ := zfact hc
  have hd : decode (zcode y) pc = .ok (.lsub, 1) := hd
  have hn : nxt = pc + 1 := hn
  subst hn
  unfold zx at hz
  dsimp only at hz
  split at hz
  · simp only [Option.some.injEq, Prod.mk.injEq] at hz
    obtain ⟨rfl, rfl, rfl, rfl, rfl⟩ := hz
    intro hlen L H locs hl hW hS hb0
    exact lv_lsub hx hb hd (kk hlen L H locs hl hW hS hb0)
  · cases hz
theorem zx_lmul  (C : zCx p R s m args meth c D cA y) (hc : zchkI y pc (.lmul, nxt, aux, pos) = true) (ht : zchkT y (.lmul, nxt, aux, pos) = true) (hcs : cells ≤ R.cells ∧ slots ≤ R.slots) (hz : zx (.lmul, nxt, aux, pos) ls st M = some (ps, pc', ls', st', M')) (hp : zall ps) (kk : zGo p l e R s m args below meth c Q D cA b0 H0 y cells slots pc' ls' st' M') : zGo p l e R s m args below meth c Q D cA b0 H0 y cells slots pc ls st M := by
  obtain ⟨hx, hb, hml, hown, hts, hK, hin, hR1, hR2, hR3, hR4⟩ := C
  obtain ⟨hd, hn, ho⟩ := zfact hc
  have hd : decode (zcode y) pc = .ok (.lmul, 1) := hd
  have hn : nxt = pc + 1 := hn
  subst hn
  unfold zx at hz
  dsimp only at hz
  split at hz
  · simp only [Option.some.injEq, Prod.mk.injEq] at hz
    obtain ⟨rfl, rfl, rfl, rfl, rfl⟩ := hz
    intro hlen L H locs hl hW hS hb0
    exact lv_lmul hx hb hd (kk hlen L H locs hl hW hS hb0)
  · cases hz
theorem zx_land  (C : zCx p R s m args meth c D cA y) (hc : zchkI y pc (.land, nxt, aux, pos) = true) (ht : zchkT y (.land, nxt, aux, pos) = true) (hcs : cells ≤ R.cells ∧ slots ≤ R.slots) (hz : zx (.land, nxt, aux, pos) ls st M = some (ps, pc', ls', st', M')) (hp : zall ps) (kk : zGo p l e R s m args below meth c Q D cA b0 H0 y cells slots pc' ls' st' M') : zGo p l e R s m args below meth c Q D cA b0 H0 y cells slots pc ls st M := by
  obtain ⟨hx, hb, hml, hown, hts, hK, hin, hR1, hR2, hR3, hR4⟩ := C
  obtain ⟨hd, hn, ho⟩ := zfact hc
  have hd : decode (zcode y) pc = .ok (.land, 1) := hd
  have hn : nxt = pc + 1 := hn
  subst hn
  unfold zx at hz
  dsimp only at hz
  split at hz
  · simp only [Option.some.injEq, Prod.mk.injEq] at hz
    obtain ⟨rfl, rfl, rfl, rfl, rfl⟩ := hz
    intro hlen L H locs hl hW hS hb0
    exact lv_land hx hb hd (kk hlen L H locs hl hW hS hb0)
  · cases hz
theorem zx_lor  (C : zCx p R s m args meth c D cA y) (hc : zchkI y pc (.lor, nxt, aux, pos) = true) (ht : zchkT y (.lor, nxt, aux, pos) = true) (hcs : cells ≤ R.cells ∧ slots ≤ R.slots) (hz : zx (.lor, nxt, aux, pos) ls st M = some (ps, pc', ls', st', M')) (hp : zall ps) (kk : zGo p l e R s m args below meth c Q D cA b0 H0 y cells slots pc' ls' st' M') : zGo p l e R s m args below meth c Q D cA b0 H0 y cells slots pc ls st M := by
  obtain ⟨hx, hb, hml, hown, hts, hK, hin, hR1, hR2, hR3, hR4⟩ := C
  obtain ⟨hd, hn, ho⟩ := zfact hc
  have hd : decode (zcode y) pc = .ok (.lor, 1) := hd
  have hn : nxt = pc + 1 := hn
  subst hn
  unfold zx at hz
  dsimp only at hz
  split at hz
  · simp only [Option.some.injEq, Prod.mk.injEq] at hz
    obtain ⟨rfl, rfl, rfl, rfl, rfl⟩ := hz
    intro hlen L H locs hl hW hS hb0
    exact lv_lor hx hb hd (kk hlen L H locs hl hW hS hb0)
  · cases hz
theorem zx_lxor  (C : zCx p R s m args meth c D cA y) (hc : zchkI y pc (.lxor, nxt, aux, pos) = true) (ht : zchkT y (.lxor, nxt, aux, pos) = true) (hcs : cells ≤ R.cells ∧ slots ≤ R.slots) (hz : zx (.lxor, nxt, aux, pos) ls st M = some (ps, pc', ls', st', M')) (hp : zall ps) (kk : zGo p l e R s m args below meth c Q D cA b0 H0 y cells slots pc' ls' st' M') : zGo p l e R s m args below meth c Q D cA b0 H0 y cells slots pc ls st M := by
  obtain ⟨hx, hb, hml, hown, hts, hK, hin, hR1, hR2, hR3, hR4⟩ := C
  obtain ⟨hd, hn, ho⟩ := zfact hc
  have hd : decode (zcode y) pc = .ok (.lxor, 1) := hd
  have hn : nxt = pc + 1 := hn
  subst hn
  unfold zx at hz
  dsimp only at hz
  split at hz
  · simp only [Option.some.injEq, Prod.mk.injEq] at hz
    obtain ⟨rfl, rfl, rfl, rfl, rfl⟩ := hz
    intro hlen L H locs hl hW hS hb0
    exact lv_lxor hx hb hd (kk hlen L H locs hl hW hS hb0)
  · cases hz
theorem zx_ishl  (C : zCx p R s m args meth c D cA y) (hc : zchkI y pc (.ishl, nxt, aux, pos) = true) (ht : zchkT y (.ishl, nxt, aux, pos) = true) (hcs : cells ≤ R.cells ∧ slots ≤ R.slots) (hz : zx (.ishl, nxt, aux, pos) ls st M = some (ps, pc', ls', st', M')) (hp : zall ps) (kk : zGo p l e R s m args below meth c Q D cA b0 H0 y cells slots pc' ls' st' M') : zGo p l e R s m args below meth c Q D cA b0 H0 y cells slots pc ls st M := by
  obtain ⟨hx, hb, hml, hown, hts, hK, hin, hR1, hR2, hR3, hR4⟩ := C
  obtain ⟨hd, hn, ho⟩ := zfact hc
  have hd : decode (zcode y) pc = .ok (.ishl, 1) := hd
  have hn : nxt = pc + 1 := hn
  subst hn
  unfold zx at hz
  dsimp only at hz
  split at hz
  · simp only [Option.some.injEq, Prod.mk.injEq] at hz
    obtain ⟨rfl, rfl, rfl, rfl, rfl⟩ := hz
    intro hlen L H locs hl hW hS hb0
    exact lv_ishl hx hb hd (kk hlen L H locs hl hW hS hb0)
  · cases hz
theorem zx_ishr  (C : zCx p R s m args meth c D cA y) (hc : zchkI y pc (.ishr, nxt, aux, pos) = true) (ht : zchkT y (.ishr, nxt, aux, pos) = true) (hcs : cells ≤ R.cells ∧ slots ≤ R.slots) (hz : zx (.ishr, nxt, aux, pos) ls st M = some (ps, pc', ls', st', M')) (hp : zall ps) (kk : zGo p l e R s m args below meth c Q D cA b0 H0 y cells slots pc' ls' st' M') : zGo p l e R s m args below meth c Q D cA b0 H0 y cells slots pc ls st M := by
  obtain ⟨hx, hb, hml, hown, hts, hK, hin, hR1, hR2, hR3, hR4⟩ := C
  obtain ⟨hd, hn, ho⟩ := zfact hc
  have hd : decode (zcode y) pc = .ok (.ishr, 1) := hd
  have hn : nxt = pc + 1 := hn
  subst hn
  unfold zx at hz
  dsimp only at hz
  split at hz
  · simp only [Option.some.injEq, Prod.mk.injEq] at hz
    obtain ⟨rfl, rfl, rfl, rfl, rfl⟩ := hz
    intro hlen L H locs hl hW hS hb0
    exact lv_ishr hx hb hd (kk hlen L H locs hl hW hS hb0)
  · cases hz
theorem zx_i2f  (C : zCx p R s m args meth c D cA y) (hc : zchkI y pc (.i2f, nxt, aux, pos) = true) (ht : zchkT y (.i2f, nxt, aux, pos) = true) (hcs : cells ≤ R.cells ∧ slots ≤ R.slots) (hz : zx (.i2f, nxt, aux, pos) ls st M = some (ps, pc', ls', st', M')) (hp : zall ps) (kk : zGo p l e R s m args below meth c Q D cA b0 H0 y cells slots pc' ls' st' M') : zGo p l e R s m args below meth c Q D cA b0 H0 y cells slots pc ls st M := by
  obtain ⟨hx, hb, hml, hown, hts, hK, hin, hR1, hR2, hR3, hR4⟩ := C
  obtain ⟨hd, hn, ho⟩ := zfact hc
  have hd : decode (zcode y) pc = .ok (.i2f, 1) := hd
  have hn : nxt = pc + 1 := hn
  subst hn
  unfold zx at hz
  dsimp only at hz
  split at hz
  · simp only [Option.some.injEq, Prod.mk.injEq] at hz
    obtain ⟨rfl, rfl, rfl, rfl, rfl⟩ := hz
    intro hlen L H locs hl hW hS hb0
    exact lv_i2f hx hb hd (kk hlen L H locs hl hW hS hb0)
  · cases hz
theorem zx_i2d  (C : zCx p R s m args meth c D cA y) (hc : zchkI y pc (.i2d, nxt, aux, pos) = true) (ht : zchkT y (.i2d, nxt, aux, pos) = true) (hcs : cells ≤ R.cells ∧ slots ≤ R.slots) (hz : zx (.i2d, nxt, aux, pos) ls st M = some (ps, pc', ls', st', M')) (hp : zall ps) (kk : zGo p l e R s m args below meth c Q D cA b0 H0 y cells slots pc' ls' st' M') : zGo p l e R s m args below meth c Q D cA b0 H0 y cells slots pc ls st M := by
  obtain ⟨hx, hb, hml, hown, hts, hK, hin, hR1, hR2, hR3, hR4⟩ := C
  obtain ⟨hd, hn, ho⟩ := zfact hc
  have hd : decode (zcode y) pc = .ok (.i2d, 1) := hd
  have hn : nxt = pc + 1 := hn
  subst hn
  unfold zx at hz
  dsimp only at hz
  split at hz
  · simp only [Option.some.injEq, Prod.mk.injEq] at hz
    obtain ⟨rfl, rfl, rfl, rfl, rfl⟩ := hz
    intro hlen L H locs hl hW hS hb0
    exact lv_i2d hx hb hd (kk hlen L H locs hl hW hS hb0)
  · cases hz
theorem zx_l2d  (C : zCx p R s m args meth c D cA y) (hc : zchkI y pc (.l2d, nxt, aux, pos) = true) (ht : zchkT y (.l2d, nxt, aux, pos) = true) (hcs : cells ≤ R.cells ∧ slots ≤ R.slots) (hz : zx (.l2d, nxt, aux, pos) ls st M = some (ps, pc', ls', st', M')) (hp : zall ps) (kk : zGo p l e R s m args below meth c Q D cA b0 H0 y cells slots pc' ls' st' M') : zGo p l e R s m args below meth c Q D cA b0 H0 y cells slots pc ls st M := by
  obtain ⟨hx, hb, hml, hown, hts, hK, hin, hR1, hR2, hR3, hR4⟩ := C
  obtain ⟨hd, hn, ho⟩ := zfact hc
  have hd : decode (zcode y) pc = .ok (.l2d, 1) := hd
  have hn : nxt = pc + 1 := hn
  subst hn
  unfold zx at hz
  dsimp only at hz
  split at hz
  · simp only [Option.some.injEq, Prod.mk.injEq] at hz
    obtain ⟨rfl, rfl, rfl, rfl, rfl⟩ := hz
    intro hlen L H locs hl hW hS hb0
    exact lv_l2d hx hb hd (kk hlen L H locs hl hW hS hb0)
  · cases hz
theorem zx_idiv  (C : zCx p R s m args meth c D cA y) (hc : zchkI y pc (.idiv, nxt, aux, pos) = true) (ht : zchkT y (.idiv, nxt, aux, pos) = true) (hcs : cells ≤ R.cells ∧ slots ≤ R.slots) (hz : zx (.idiv, nxt, aux, pos) ls st M = some (ps, pc', ls', st', M')) (hp : zall ps) (kk : zGo p l e R s m args below meth c Q D cA b0 H0 y cells slots pc' ls' st' M') : zGo p l e R s m args below meth c Q D cA b0 H0 y cells slots pc ls st M := by
  obtain ⟨hx, hb, hml, hown, hts, hK, hin, hR1, hR2, hR3, hR4⟩ := C
  obtain ⟨hd, hn, ho⟩ := zfact hc
  have hd : decode (zcode y) pc = .ok (.idiv, 1) := hd
  have hn : nxt = pc + 1 := hn
  subst hn
  unfold zx at hz
  dsimp only at hz
  split at hz
  · simp only [Option.some.injEq, Prod.mk.injEq] at hz
    obtain ⟨rfl, rfl, rfl, rfl, rfl⟩ := hz
    intro hlen L H locs hl hW hS hb0
    exact lv_idiv hx hb hd hp (kk hlen L H locs hl hW hS hb0)
  · cases hz
theorem zx_irem  (C : zCx p R s m args meth c D cA y) (hc : zchkI y pc (.irem, nxt, aux, pos) = true) (ht : zchkT y (.irem, nxt, aux, pos) = true) (hcs : cells ≤ R.cells ∧ slots ≤ R.slots) (hz : zx (.irem, nxt, aux, pos) ls st M = some (ps, pc', ls', st', M')) (hp : zall ps) (kk : zGo p l e R s m args below meth c Q D cA b0 H0 y cells slots pc' ls' st' M') : zGo p l e R s m args below meth c Q D cA b0 H0 y cells slots pc ls st M := by
  obtain ⟨hx, hb, hml, hown, hts, hK, hin, hR1, hR2, hR3, hR4⟩ := C
  obtain ⟨hd, hn, ho⟩ := zfact hc
  have hd : decode (zcode y) pc = .ok (.irem, 1) := hd
  have hn : nxt = pc + 1 := hn
  subst hn
  unfold zx at hz
  dsimp only at hz
  split at hz
  · simp only [Option.some.injEq, Prod.mk.injEq] at hz
    obtain ⟨rfl, rfl, rfl, rfl, rfl⟩ := hz
    intro hlen L H locs hl hW hS hb0
    exact lv_irem hx hb hd hp (kk hlen L H locs hl hW hS hb0)
  · cases hz
theorem zx_ldiv  (C : zCx p R s m args meth c D cA y) (hc : zchkI y pc (.ldiv, nxt, aux, pos) = true) (ht : zchkT y (.ldiv, nxt, aux, pos) = true) (hcs : cells ≤ R.cells ∧ slots ≤ R.slots) (hz : zx (.ldiv, nxt, aux, pos) ls st M = some (ps, pc', ls', st', M')) (hp : zall ps) (kk : zGo p l e R s m args below meth c Q D cA b0 H0 y cells slots pc' ls' st' M') : zGo p l e R s m args below meth c Q D cA b0 H0 y cells slots pc ls st M := by
  obtain ⟨hx, hb, hml, hown, hts, hK, hin, hR1, hR2, hR3, hR4⟩ := C
  obtain ⟨hd, hn, ho⟩ := zfact hc
  have hd : decode (zcode y) pc = .ok (.ldiv, 1) := hd
  have hn : nxt = pc + 1 := hn
  subst hn
  unfold zx at hz
  dsimp only at hz
  split at hz
  · simp only [Option.some.injEq, Prod.mk.injEq] at hz
    obtain ⟨rfl, rfl, rfl, rfl, rfl⟩ := hz
    intro hlen L H locs hl hW hS hb0
    exact lv_ldiv hx hb hd hp (kk hlen L H locs hl hW hS hb0)
  · cases hz
theorem zx_lrem  (C : zCx p R s m args meth c D cA y) (hc : zchkI y pc (.lrem, nxt, aux, pos) = true) (ht : zchkT y (.lrem, nxt, aux, pos) = true) (hcs : cells ≤ R.cells ∧ slots ≤ R.slots) (hz : zx (.lrem, nxt, aux, pos) ls st M = some (ps, pc', ls', st', M')) (hp : zall ps) (kk : zGo p l e R s m args below meth c Q D cA b0 H0 y cells slots pc' ls' st' M') : zGo p l e R s m args below meth c Q D cA b0 H0 y cells slots pc ls st M := by
  obtain ⟨hx, hb, hml, hown, hts, hK, hin, hR1, hR2, hR3, hR4⟩ := C
  obtain ⟨hd, hn, ho⟩ := zfact hc
  have hd : decode (zcode y) pc = .ok (.lrem, 1) := hd
  have hn : nxt = pc + 1 := hn
  subst hn
  unfold zx at hz
  dsimp only at hz
  split at hz
  · simp only [Option.some.injEq, Prod.mk.injEq] at hz
    obtain ⟨rfl, rfl, rfl, rfl, rfl⟩ := hz
    intro hlen L H locs hl hW hS hb0
    exact lv_lrem hx hb hd hp (kk hlen L H locs hl hW hS hb0)
  · cases hz
theorem zx_fdiv  (C : zCx p R s m args meth c D cA y) (hc : zchkI y pc (.fdiv, nxt, aux, pos) = true) (ht : zchkT y (.fdiv, nxt, aux, pos) = true) (hcs : cells ≤ R.cells ∧ slots ≤ R.slots) (hz : zx (.fdiv, nxt, aux, pos) ls st M = some (ps, pc', ls', st', M')) (hp : zall ps) (kk : zGo p l e R s m args below meth c Q D cA b0 H0 y cells slots pc' ls' st' M') : zGo p l e R s m args below meth c Q D cA b0 H0 y cells slots pc ls st M := by
  obtain ⟨hx, hb, hml, hown, hts, hK, hin, hR1, hR2, hR3, hR4⟩ := C
  obtain ⟨hd, hn, ho⟩ := zfact hc
  have hd : decode (zcode y) pc = .ok (.fdiv, 1) := hd
  have hn : nxt = pc + 1 := hn
  subst hn
  unfold zx at hz
  dsimp only at hz
  split at hz
  · simp only [Option.some.injEq, Prod.mk.injEq] at hz
    obtain ⟨rfl, rfl, rfl, rfl, rfl⟩ := hz
    intro hlen L H locs hl hW hS hb0
    exact lv_fdiv hx hb hd hp (kk hlen L H locs hl hW hS hb0)
  · cases hz
theorem zx_ddiv  (C : zCx p R s m args meth c D cA y) (hc : zchkI y pc (.ddiv, nxt, aux, pos) = true) (ht : zchkT y (.ddiv, nxt, aux, pos) = true) (hcs : cells ≤ R.cells ∧ slots ≤ R.slots) (hz : zx (.ddiv, nxt, aux, pos) ls st M = some (ps, pc', ls', st', M')) (hp : zall ps) (kk : zGo p l e R s m args below meth c Q D cA b0 H0 y cells slots pc' ls' st' M') : zGo p l e R s m args below meth c Q D cA b0 H0 y cells slots pc ls st M := by
  obtain ⟨hx, hb, hml, hown, hts, hK, hin, hR1, hR2, hR3, hR4⟩ := C
  obtain ⟨hd, hn, ho⟩ := zfact hc
  have hd : decode (zcode y) pc = .ok (.ddiv, 1) := hd
  have hn : nxt = pc + 1 := hn
  subst hn
  unfold zx at hz
  dsimp only at hz
  split at hz
  · simp only [Option.some.injEq, Prod.mk.injEq] at hz
    obtain ⟨rfl, rfl, rfl, rfl, rfl⟩ := hz
    intro hlen L H locs hl hW hS hb0
    exact lv_ddiv hx hb hd hp (kk hlen L H locs hl hW hS hb0)
  · cases hz
theorem zx_f2d  (C : zCx p R s m args meth c D cA y) (hc : zchkI y pc (.f2d, nxt, aux, pos) = true) (ht : zchkT y (.f2d, nxt, aux, pos) = true) (hcs : cells ≤ R.cells ∧ slots ≤ R.slots) (hz : zx (.f2d, nxt, aux, pos) ls st M = some (ps, pc', ls', st', M')) (hp : zall ps) (kk : zGo p l e R s m args below meth c Q D cA b0 H0 y cells slots pc' ls' st' M') : zGo p l e R s m args below meth c Q D cA b0 H0 y cells slots pc ls st M := by
  obtain ⟨hx, hb, hml, hown, hts, hK, hin, hR1, hR2, hR3, hR4⟩ := C
  obtain ⟨hd, hn, ho⟩ := zfact hc
  have hd : decode (zcode y) pc = .ok (.f2d, 1) := hd
  have hn : nxt = pc + 1 := hn
  subst hn
  unfold zx at hz
  dsimp only at hz
  split at hz
  · simp only [Option.some.injEq, Prod.mk.injEq] at hz
    obtain ⟨rfl, rfl, rfl, rfl, rfl⟩ := hz
    intro hlen L H locs hl hW hS hb0
    exact lv_f2d hx hb hd hp (kk hlen L H locs hl hW hS hb0)
  · cases hz
theorem zx_iushr  (C : zCx p R s m args meth c D cA y) (hc : zchkI y pc (.iushr, nxt, aux, pos) = true) (ht : zchkT y (.iushr, nxt, aux, pos) = true) (hcs : cells ≤ R.cells ∧ slots ≤ R.slots) (hz : zx (.iushr, nxt, aux, pos) ls st M = some (ps, pc', ls', st', M')) (hp : zall ps) (kk : zGo p l e R s m args below meth c Q D cA b0 H0 y cells slots pc' ls' st' M') : zGo p l e R s m args below meth c Q D cA b0 H0 y cells slots pc ls st M := by
  obtain ⟨hx, hb, hml, hown, hts, hK, hin, hR1, hR2, hR3, hR4⟩ := C
  obtain ⟨hd, hn, ho⟩ := zfact hc
  have hd : decode (zcode y) pc = .ok (.iushr, 1) := hd
  have hn : nxt = pc + 1 := hn
  subst hn
  unfold zx at hz
  dsimp only at hz
  split at hz
  · simp only [Option.some.injEq, Prod.mk.injEq] at hz
    obtain ⟨rfl, rfl, rfl, rfl, rfl⟩ := hz
    intro hlen L H locs hl hW hS hb0
    exact lv_iushr hx hb hd rfl (kk hlen L H locs hl hW hS hb0)
  · cases hz
theorem zx_lushr  (C : zCx p R s m args meth c D cA y) (hc : zchkI y pc (.lushr, nxt, aux, pos) = true) (ht : zchkT y (.lushr, nxt, aux, pos) = true) (hcs : cells ≤ R.cells ∧ slots ≤ R.slots) (hz : zx (.lushr, nxt, aux, pos) ls st M = some (ps, pc', ls', st', M')) (hp : zall ps) (kk : zGo p l e R s m args below meth c Q D cA b0 H0 y cells slots pc' ls' st' M') : zGo p l e R s m args below meth c Q D cA b0 H0 y cells slots pc ls st M := by
  obtain ⟨hx, hb, hml, hown, hts, hK, hin, hR1, hR2, hR3, hR4⟩ := C
  obtain ⟨hd, hn, ho⟩ := zfact hc
  have hd : decode (zcode y) pc = .ok (.lushr, 1) := hd
  have hn : nxt = pc + 1 := hn
  subst hn
  unfold zx at hz
  dsimp only at hz
  split at hz
  · simp only [Option.some.injEq, Prod.mk.injEq] at hz
    obtain ⟨rfl, rfl, rfl, rfl, rfl⟩ := hz
    intro hlen L H locs hl hW hS hb0
    exact lv_lushr hx hb hd rfl (kk hlen L H locs hl hW hS hb0)
  · cases hz
theorem zx_lshl  (C : zCx p R s m args meth c D cA y) (hc : zchkI y pc (.lshl, nxt, aux, pos) = true) (ht : zchkT y (.lshl, nxt, aux, pos) = true) (hcs : cells ≤ R.cells ∧ slots ≤ R.slots) (hz : zx (.lshl, nxt, aux, pos) ls st M = some (ps, pc', ls', st', M')) (hp : zall ps) (kk : zGo p l e R s m args below meth c Q D cA b0 H0 y cells slots pc' ls' st' M') : zGo p l e R s m args below meth c Q D cA b0 H0 y cells slots pc ls st M := by
  obtain ⟨hx, hb, hml, hown, hts, hK, hin, hR1, hR2, hR3, hR4⟩ := C
  obtain ⟨hd, hn, ho⟩ := zfact hc
  have hd : decode (zcode y) pc = .ok (.lshl, 1) := hd
  have hn : nxt = pc + 1 := hn
  subst hn
  unfold zx at hz
  dsimp only at hz
  split at hz
  · simp only [Option.some.injEq, Prod.mk.injEq] at hz
    obtain ⟨rfl, rfl, rfl, rfl, rfl⟩ := hz
    intro hlen L H locs hl hW hS hb0
    exact lv_lshl hx hb hd rfl (kk hlen L H locs hl hW hS hb0)
  · cases hz
theorem zx_i2l  (C : zCx p R s m args meth c D cA y) (hc : zchkI y pc (.i2l, nxt, aux, pos) = true) (ht : zchkT y (.i2l, nxt, aux, pos) = true) (hcs : cells ≤ R.cells ∧ slots ≤ R.slots) (hz : zx (.i2l, nxt, aux, pos) ls st M = some (ps, pc', ls', st', M')) (hp : zall ps) (kk : zGo p l e R s m args below meth c Q D cA b0 H0 y cells slots pc' ls' st' M') : zGo p l e R s m args below meth c Q D cA b0 H0 y cells slots pc ls st M := by
  obtain ⟨hx, hb, hml, hown, hts, hK, hin, hR1, hR2, hR3, hR4⟩ := C
  obtain ⟨hd, hn, ho⟩ := zfact hc
  have hd : decode (zcode y) pc = .ok (.i2l, 1) := hd
  have hn : nxt = pc + 1 := hn
  subst hn
  unfold zx at hz
  dsimp only at hz
  split at hz
  · simp only [Option.some.injEq, Prod.mk.injEq] at hz
    obtain ⟨rfl, rfl, rfl, rfl, rfl⟩ := hz
    intro hlen L H locs hl hW hS hb0
    exact lv_i2l hx hb hd rfl (kk hlen L H locs hl hW hS hb0)
  · cases hz
theorem zx_l2i  (C : zCx p R s m args meth c D cA y) (hc : zchkI y pc (.l2i, nxt, aux, pos) = true) (ht : zchkT y (.l2i, nxt, aux, pos) = true) (hcs : cells ≤ R.cells ∧ slots ≤ R.slots) (hz : zx (.l2i, nxt, aux, pos) ls st M = some (ps, pc', ls', st', M')) (hp : zall ps) (kk : zGo p l e R s m args below meth c Q D cA b0 H0 y cells slots pc' ls' st' M') : zGo p l e R s m args below meth c Q D cA b0 H0 y cells slots pc ls st M := by
  obtain ⟨hx, hb, hml, hown, hts, hK, hin, hR1, hR2, hR3, hR4⟩ := C
  obtain ⟨hd, hn, ho⟩ := zfact hc
  have hd : decode (zcode y) pc = .ok (.l2i, 1) := hd
  have hn : nxt = pc + 1 := hn
  subst hn
  unfold zx at hz
  dsimp only at hz
  split at hz
  · simp only [Option.some.injEq, Prod.mk.injEq] at hz
    obtain ⟨rfl, rfl, rfl, rfl, rfl⟩ := hz
    intro hlen L H locs hl hW hS hb0
    exact lv_l2i hx hb hd rfl (kk hlen L H locs hl hW hS hb0)
  · cases hz
theorem zx_i2c  (C : zCx p R s m args meth c D cA y) (hc : zchkI y pc (.i2c, nxt, aux, pos) = true) (ht : zchkT y (.i2c, nxt, aux, pos) = true) (hcs : cells ≤ R.cells ∧ slots ≤ R.slots) (hz : zx (.i2c, nxt, aux, pos) ls st M = some (ps, pc', ls', st', M')) (hp : zall ps) (kk : zGo p l e R s m args below meth c Q D cA b0 H0 y cells slots pc' ls' st' M') : zGo p l e R s m args below meth c Q D cA b0 H0 y cells slots pc ls st M := by
  obtain ⟨hx, hb, hml, hown, hts, hK, hin, hR1, hR2, hR3, hR4⟩ := C
  obtain ⟨hd, hn, ho⟩ := zfact hc
  have hd : decode (zcode y) pc = .ok (.i2c, 1) := hd
  have hn : nxt = pc + 1 := hn
  subst hn
  unfold zx at hz
  dsimp only at hz
  split at hz
  · simp only [Option.some.injEq, Prod.mk.injEq] at hz
    obtain ⟨rfl, rfl, rfl, rfl, rfl⟩ := hz
    intro hlen L H locs hl hW hS hb0
    exact lv_i2c hx hb hd rfl (kk hlen L H locs hl hW hS hb0)
  · cases hz
theorem zx_lcmp  (C : zCx p R s m args meth c D cA y) (hc : zchkI y pc (.lcmp, nxt, aux, pos) = true) (ht : zchkT y (.lcmp, nxt, aux, pos) = true) (hcs : cells ≤ R.cells ∧ slots ≤ R.slots) (hz : zx (.lcmp, nxt, aux, pos) ls st M = some (ps, pc', ls', st', M')) (hp : zall ps) (kk : zGo p l e R s m args below meth c Q D cA b0 H0 y cells slots pc' ls' st' M') : zGo p l e R s m args below meth c Q D cA b0 H0 y cells slots pc ls st M := by
  obtain ⟨hx, hb, hml, hown, hts, hK, hin, hR1, hR2, hR3, hR4⟩ := C
  obtain ⟨hd, hn, ho⟩ := zfact hc
  have hd : decode (zcode y) pc = .ok (.lcmp, 1) := hd
  have hn : nxt = pc + 1 := hn
  subst hn
  unfold zx at hz
  dsimp only at hz
  split at hz
  · simp only [Option.some.injEq, Prod.mk.injEq] at hz
    obtain ⟨rfl, rfl, rfl, rfl, rfl⟩ := hz
    intro hlen L H locs hl hW hS hb0
    exact W.lcmp hx hb hd (kk hlen L H locs hl hW hS hb0)
  · cases hz
theorem zx_fcmp {op : CmpOp} (C : zCx p R s m args meth c D cA y) (hc : zchkI y pc (.fcmp op, nxt, aux, pos) = true) (ht : zchkT y (.fcmp op, nxt, aux, pos) = true) (hcs : cells ≤ R.cells ∧ slots ≤ R.slots) (hz : zx (.fcmp op, nxt, aux, pos) ls st M = some (ps, pc', ls', st', M')) (hp : zall ps) (kk : zGo p l e R s m args below meth c Q D cA b0 H0 y cells slots pc' ls' st' M') : zGo p l e R s m args below meth c Q D cA b0 H0 y cells slots pc ls st M := by
  obtain ⟨hx, hb, hml, hown, hts, hK, hin, hR1, hR2, hR3, hR4⟩ := C
  obtain ⟨hd, hn, ho⟩ := zfact hc
  have hd : decode (zcode y) pc = .ok (.fcmp op, 1) := hd
  have hn : nxt = pc + 1 := hn
  subst hn
  unfold zx at hz
  dsimp only at hz
  split at hz
  · simp only [Option.some.injEq, Prod.mk.injEq] at hz
    obtain ⟨rfl, rfl, rfl, rfl, rfl⟩ := hz
    intro hlen L H locs hl hW hS hb0
    exact lv_fcmp hx hb hd (kk hlen L H locs hl hW hS hb0)
  · cases hz
theorem zx_dcmp {op : CmpOp} (C : zCx p R s m args meth c D cA y) (hc : zchkI y pc (.dcmp op, nxt, aux, pos) = true) (ht : zchkT y (.dcmp op, nxt, aux, pos) = true) (hcs : cells ≤ R.cells ∧ slots ≤ R.slots) (hz : zx (.dcmp op, nxt, aux, pos) ls st M = some (ps, pc', ls', st', M')) (hp : zall ps) (kk : zGo p l e R s m args below meth c Q D cA b0 H0 y cells slots pc' ls' st' M') : zGo p l e R s m args below meth c Q D cA b0 H0 y cells slots pc ls st M := by
  obtain ⟨hx, hb, hml, hown, hts, hK, hin, hR1, hR2, hR3, hR4⟩ := C
  obtain ⟨hd, hn, ho⟩ := zfact hc
  have hd : decode (zcode y) pc = .ok (.dcmp op, 1) := hd
  have hn : nxt = pc + 1 := hn
  subst hn
  unfold zx at hz
  dsimp only at hz
  split at hz
  · simp only [Option.some.injEq, Prod.mk.injEq] at hz
    obtain ⟨rfl, rfl, rfl, rfl, rfl⟩ := hz
    intro hlen L H locs hl hW hS hb0
    exact lv_dcmp hx hb hd (kk hlen L H locs hl hW hS hb0)
  · cases hz
theorem zx_goto {off : Int} (C : zCx p R s m args meth c D cA y) (hc : zchkI y pc (.goto off, nxt, aux, pos) = true) (ht : zchkT y (.goto off, nxt, aux, pos) = true) (hcs : cells ≤ R.cells ∧ slots ≤ R.slots) (hz : zx (.goto off, nxt, aux, pos) ls st M = some (ps, pc', ls', st', M')) (hp : zall ps) (kk : zGo p l e R s m args below meth c Q D cA b0 H0 y cells slots pc' ls' st' M') : zGo p l e R s m args below meth c Q D cA b0 H0 y cells slots pc ls st M := by
  obtain ⟨hx, hb, hml, hown, hts, hK, hin, hR1, hR2, hR3, hR4⟩ := C
  obtain ⟨hd, hn, ho⟩ := zfact hc
  have hd : decode (zcode y) pc = .ok (.goto off, 3) := hd
  have hn : nxt = pc + 3 := hn
  subst hn
  unfold zx at hz
  dsimp only at hz
  simp only [zchkO, decide_eq_true_eq] at ho
  simp only [Option.some.injEq, Prod.mk.injEq] at hz
  obtain ⟨rfl, rfl, rfl, rfl, rfl⟩ := hz
  intro hlen L H locs hl hW hS hb0
  exact lv_goto hx hb hd ho (kk hlen L H locs hl hW hS hb0)
theorem zx_getfield {i : Nat} (C : zCx p R s m args meth c D cA y) (hc : zchkI y pc (.getfield i, nxt, aux, pos) = true) (ht : zchkT y (.getfield i, nxt, aux, pos) = true) (hcs : cells ≤ R.cells ∧ slots ≤ R.slots) (hz : zx (.getfield i, nxt, aux, pos) ls st M = some (ps, pc', ls', st', M')) (hp : zall ps) (kk : zGo p l e R s m args below meth c Q D cA b0 H0 y cells slots pc' ls' st' M') : zGo p l e R s m args below meth c Q D cA b0 H0 y cells slots pc ls st M := by
  obtain ⟨hx, hb, hml, hown, hts, hK, hin, hR1, hR2, hR3, hR4⟩ := C
  obtain ⟨hd, hn, ho⟩ := zfact hc
  have hd : decode (zcode y) pc = .ok (.getfield i, 3) := hd
  have hn : nxt = pc + 3 := hn
  subst hn
  unfold zx at hz
  dsimp only at hz
  simp only [zchkO, Bool.and_eq_true] at ho
  obtain ⟨⟨h8, hk⟩, hw⟩ := ho
  have h8 : aux / 64 < 8 := Nat.le_of_ble_eq_true h8
  have hk : aux % 64 < zNf (aux / 64) := Nat.le_of_ble_eq_true hk
  split at hz
  · rename_i r st
    split at hz
    · rename_i v hv
      simp only [Option.some.injEq, Prod.mk.injEq] at hz
      obtain ⟨rfl, rfl, rfl, rfl, rfl⟩ := hz
      obtain ⟨a, rfl, ha⟩ := hp
      intro hlen L H locs hl hW hS hb0
      refine z_get hx hb hts hown hK hW ha h8 hk (zwd_in hw) hd ?_
      have e1 : zval (zty (aux / 64) (aux % 64)) M a (aux % 64) = zv v := zfget_ok hv
      rw [e1]
      exact kk hlen L H locs hl hW hS hb0
    · cases hz
  · cases hz
theorem zx_putfield {i : Nat} (C : zCx p R s m args meth c D cA y) (hc : zchkI y pc (.putfield i, nxt, aux, pos) = true) (ht : zchkT y (.putfield i, nxt, aux, pos) = true) (hcs : cells ≤ R.cells ∧ slots ≤ R.slots) (hz : zx (.putfield i, nxt, aux, pos) ls st M = some (ps, pc', ls', st', M')) (hp : zall ps) (kk : zGo p l e R s m args below meth c Q D cA b0 H0 y cells slots pc' ls' st' M') : zGo p l e R s m args below meth c Q D cA b0 H0 y cells slots pc ls st M := by
  obtain ⟨hx, hb, hml, hown, hts, hK, hin, hR1, hR2, hR3, hR4⟩ := C
  obtain ⟨hd, hn, ho⟩ := zfact hc
  have hd : decode (zcode y) pc = .ok (.putfield i, 3) := hd
  have hn : nxt = pc + 3 := hn
  subst hn
  unfold zx at hz
  dsimp only at hz
  simp only [zchkO, Bool.and_eq_true] at ho
  obtain ⟨⟨⟨h8, hk⟩, hw⟩, hf⟩ := ho
  have h8 : aux / 64 < 8 := Nat.le_of_ble_eq_true h8
  have hk : aux % 64 < zNf (aux / 64) := Nat.le_of_ble_eq_true hk
  have hf : (zT (aux / 64) (aux % 64)).2.2.2 = false ∨ (meth.name = "<init>" ∧ (zT (aux / 64) (aux % 64)).1 = zown y) := by
    simp only [Bool.or_eq_true, Bool.not_eq_true', Bool.and_eq_true, decide_eq_true_eq] at hf
    exact hf.imp id fun q => ⟨hin (Nat.eq_of_beq_eq_true q.1), q.2⟩
  split at hz
  · rename_i v r st
    split at hz
    · rename_i qs M1 hv
      simp only [Option.some.injEq, Prod.mk.injEq] at hz
      obtain ⟨rfl, rfl, rfl, rfl, rfl⟩ := hz
      obtain ⟨⟨a, rfl, ha⟩, hps⟩ := zall_cons.mp hp
      intro hlen L H locs hl hW hS hb0
      refine z_put hx hb hts hown hK hW hS ha h8 hk (zwd_in hw) hf hv hps hd fun H1 locs1 hW1 hS1 => ?_
      exact kk hlen L H1 locs1 hl hW1 hS1 (by rw [hW1.1, (zfput_ok hv hps).2.1, ← hW.1]; exact hb0)
    · cases hz
  · cases hz
theorem zx_iaload  (C : zCx p R s m args meth c D cA y) (hc : zchkI y pc (.iaload, nxt, aux, pos) = true) (ht : zchkT y (.iaload, nxt, aux, pos) = true) (hcs : cells ≤ R.cells ∧ slots ≤ R.slots) (hz : zx (.iaload, nxt, aux, pos) ls st M = some (ps, pc', ls', st', M')) (hp : zall ps) (kk : zGo p l e R s m args below meth c Q D cA b0 H0 y cells slots pc' ls' st' M') : zGo p l e R s m args below meth c Q D cA b0 H0 y cells slots pc ls st M := by
  obtain ⟨hx, hb, hml, hown, hts, hK, hin, hR1, hR2, hR3, hR4⟩ := C
  obtain ⟨hd, hn, ho⟩ := zfact hc
  have hd : decode (zcode y) pc = .ok (.iaload, 1) := hd
  have hn : nxt = pc + 1 := hn
  subst hn
  unfold zx at hz
  dsimp only at hz
  split at hz
  · rename_i i r st
    simp only [Option.some.injEq, Prod.mk.injEq] at hz
    obtain ⟨rfl, rfl, rfl, rfl, rfl⟩ := hz
    intro hlen L H locs hl hW hS hb0
    rcases hp with ⟨a, n, rfl, ha, hi⟩ | ⟨a, n, rfl, ha, hi⟩
    · exact z_ald hx hb hK hW (t := 0) ha hi (by decide) (Or.inl ⟨rfl, rfl⟩) hd (kk hlen L H locs hl hW hS hb0)
    · exact z_sld hx hb hK hW ha hi hd (kk hlen L H locs hl hW hS hb0)
  · cases hz
theorem zx_laload  (C : zCx p R s m args meth c D cA y) (hc : zchkI y pc (.laload, nxt, aux, pos) = true) (ht : zchkT y (.laload, nxt, aux, pos) = true) (hcs : cells ≤ R.cells ∧ slots ≤ R.slots) (hz : zx (.laload, nxt, aux, pos) ls st M = some (ps, pc', ls', st', M')) (hp : zall ps) (kk : zGo p l e R s m args below meth c Q D cA b0 H0 y cells slots pc' ls' st' M') : zGo p l e R s m args below meth c Q D cA b0 H0 y cells slots pc ls st M := by
  obtain ⟨hx, hb, hml, hown, hts, hK, hin, hR1, hR2, hR3, hR4⟩ := C
  obtain ⟨hd, hn, ho⟩ := zfact hc
  have hd : decode (zcode y) pc = .ok (.laload, 1) := hd
  have hn : nxt = pc + 1 := hn
  subst hn
  unfold zx at hz
  dsimp only at hz
  split at hz
  · rename_i i r st
    simp only [Option.some.injEq, Prod.mk.injEq] at hz
    obtain ⟨rfl, rfl, rfl, rfl, rfl⟩ := hz
    obtain ⟨a, n, rfl, ha, hi⟩ := hp
    intro hlen L H locs hl hW hS hb0
    exact z_ald hx hb hK hW (t := 1) ha hi (by decide) (Or.inr (Or.inl ⟨rfl, rfl⟩)) hd (kk hlen L H locs hl hW hS hb0)
  · cases hz
theorem zx_baload  (C : zCx p R s m args meth c D cA y) (hc : zchkI y pc (.baload, nxt, aux, pos) = true) (ht : zchkT y (.baload, nxt, aux, pos) = true) (hcs : cells ≤ R.cells ∧ slots ≤ R.slots) (hz : zx (.baload, nxt, aux, pos) ls st M = some (ps, pc', ls', st', M')) (hp : zall ps) (kk : zGo p l e R s m args below meth c Q D cA b0 H0 y cells slots pc' ls' st' M') : zGo p l e R s m args below meth c Q D cA b0 H0 y cells slots pc ls st M := by
  obtain ⟨hx, hb, hml, hown, hts, hK, hin, hR1, hR2, hR3, hR4⟩ := C
  obtain ⟨hd, hn, ho⟩ := zfact hc
  have hd : decode (zcode y) pc = .ok (.baload, 1) := hd
  have hn : nxt = pc + 1 := hn
  subst hn
  unfold zx at hz
  dsimp only at hz
  split at hz
  · rename_i i r st
    simp only [Option.some.injEq, Prod.mk.injEq] at hz
    obtain ⟨rfl, rfl, rfl, rfl, rfl⟩ := hz
    obtain ⟨a, n, rfl, ha, hi⟩ := hp
    intro hlen L H locs hl hW hS hb0
    exact z_ald hx hb hK hW (t := 2) ha hi (by decide) (Or.inr (Or.inr (Or.inl ⟨rfl, rfl⟩))) hd (kk hlen L H locs hl hW hS hb0)
  · cases hz
theorem zx_caload  (C : zCx p R s m args meth c D cA y) (hc : zchkI y pc (.caload, nxt, aux, pos) = true) (ht : zchkT y (.caload, nxt, aux, pos) = true) (hcs : cells ≤ R.cells ∧ slots ≤ R.slots) (hz : zx (.caload, nxt, aux, pos) ls st M = some (ps, pc', ls', st', M')) (hp : zall ps) (kk : zGo p l e R s m args below meth c Q D cA b0 H0 y cells slots pc' ls' st' M') : zGo p l e R s m args below meth c Q D cA b0 H0 y cells slots pc ls st M := by
  obtain ⟨hx, hb, hml, hown, hts, hK, hin, hR1, hR2, hR3, hR4⟩ := C
  obtain ⟨hd, hn, ho⟩ := zfact hc
  have hd : decode (zcode y) pc = .ok (.caload, 1) := hd
  have hn : nxt = pc + 1 := hn
  subst hn
  unfold zx at hz
  dsimp only at hz
  split at hz
  · rename_i i r st
    simp only [Option.some.injEq, Prod.mk.injEq] at hz
    obtain ⟨rfl, rfl, rfl, rfl, rfl⟩ := hz
    obtain ⟨a, n, rfl, ha, hi⟩ := hp
    intro hlen L H locs hl hW hS hb0
    exact z_ald hx hb hK hW (t := 3) ha hi (by decide) (Or.inr (Or.inr (Or.inr (Or.inl ⟨rfl, rfl⟩)))) hd (kk hlen L H locs hl hW hS hb0)
  · cases hz
theorem zx_aaload  (C : zCx p R s m args meth c D cA y) (hc : zchkI y pc (.aaload, nxt, aux, pos) = true) (ht : zchkT y (.aaload, nxt, aux, pos) = true) (hcs : cells ≤ R.cells ∧ slots ≤ R.slots) (hz : zx (.aaload, nxt, aux, pos) ls st M = some (ps, pc', ls', st', M')) (hp : zall ps) (kk : zGo p l e R s m args below meth c Q D cA b0 H0 y cells slots pc' ls' st' M') : zGo p l e R s m args below meth c Q D cA b0 H0 y cells slots pc ls st M := by
  obtain ⟨hx, hb, hml, hown, hts, hK, hin, hR1, hR2, hR3, hR4⟩ := C
  obtain ⟨hd, hn, ho⟩ := zfact hc
  have hd : decode (zcode y) pc = .ok (.aaload, 1) := hd
  have hn : nxt = pc + 1 := hn
  subst hn
  unfold zx at hz
  dsimp only at hz
  split at hz
  · rename_i i r st
    simp only [Option.some.injEq, Prod.mk.injEq] at hz
    obtain ⟨rfl, rfl, rfl, rfl, rfl⟩ := hz
    intro hlen L H locs hl hW hS hb0
    have key : ∀ t a n, 5 ≤ t → t < 10 → r = some a → zK M a = some (20 + t, n) → vp_in i n → W p l e R s m args below meth c H locs cells slots Q (F0 m pc L (List.map zv (zi i :: zr r :: st))) := by
      rintro t a n h5 h10 rfl ha hi
      refine z_ald hx hb hK hW (t := t) ha hi h10 (Or.inr (Or.inr (Or.inr (Or.inr ⟨h5, rfl⟩)))) hd ?_
      have e1 : zval (zel t) M a i.toNatClampNeg = va_rf (zP M a i.toNatClampNeg) := by
        rcases (show t = 5 ∨ t = 6 ∨ t = 7 ∨ t = 8 ∨ t = 9 by omega) with rfl | rfl | rfl | rfl | rfl <;> rfl
      rw [e1]
      exact kk hlen L H locs hl hW hS hb0
    rcases hp with ⟨a, n, h1, ha, hi⟩ | ⟨a, n, h1, ha, hi⟩ | ⟨a, n, h1, ha, hi⟩ | ⟨a, n, h1, ha, hi⟩ | ⟨a, n, h1, ha, hi⟩
    · exact key 5 a n (by decide) (by decide) h1 ha hi
    · exact key 6 a n (by decide) (by decide) h1 ha hi
    · exact key 7 a n (by decide) (by decide) h1 ha hi
    · exact key 8 a n (by decide) (by decide) h1 ha hi
    · exact key 9 a n (by decide) (by decide) h1 ha hi
  · cases hz
theorem zx_iastore  (C : zCx p R s m args meth c D cA y) (hc : zchkI y pc (.iastore, nxt, aux, pos) = true) (ht : zchkT y (.iastore, nxt, aux, pos) = true) (hcs : cells ≤ R.cells ∧ slots ≤ R.slots) (hz : zx (.iastore, nxt, aux, pos) ls st M = some (ps, pc', ls', st', M')) (hp : zall ps) (kk : zGo p l e R s m args below meth c Q D cA b0 H0 y cells slots pc' ls' st' M') : zGo p l e R s m args below meth c Q D cA b0 H0 y cells slots pc ls st M := by
  obtain ⟨hx, hb, hml, hown, hts, hK, hin, hR1, hR2, hR3, hR4⟩ := C
  obtain ⟨hd, hn, ho⟩ := zfact hc
  have hd : decode (zcode y) pc = .ok (.iastore, 1) := hd
  have hn : nxt = pc + 1 := hn
  subst hn
  unfold zx at hz
  dsimp only at hz
  split at hz
  · rename_i x i r st
    simp only [Option.some.injEq, Prod.mk.injEq] at hz
    obtain ⟨rfl, rfl, rfl, rfl, rfl⟩ := hz
    obtain ⟨a, n, rfl, ha, hi⟩ := hp
    intro hlen L H locs hl hW hS hb0
    exact z_iast hx hb hK hW hS (t := 0) ha hi (Or.inl ⟨rfl, rfl⟩) hd fun H1 locs1 hW1 hS1 => kk hlen L H1 locs1 hl hW1 hS1 (by rw [hW1.1]; show b0 ≤ zN M; rw [← hW.1]; exact hb0)
  · cases hz
theorem zx_bastore  (C : zCx p R s m args meth c D cA y) (hc : zchkI y pc (.bastore, nxt, aux, pos) = true) (ht : zchkT y (.bastore, nxt, aux, pos) = true) (hcs : cells ≤ R.cells ∧ slots ≤ R.slots) (hz : zx (.bastore, nxt, aux, pos) ls st M = some (ps, pc', ls', st', M')) (hp : zall ps) (kk : zGo p l e R s m args below meth c Q D cA b0 H0 y cells slots pc' ls' st' M') : zGo p l e R s m args below meth c Q D cA b0 H0 y cells slots pc ls st M := by
  obtain ⟨hx, hb, hml, hown, hts, hK, hin, hR1, hR2, hR3, hR4⟩ := C
  obtain ⟨hd, hn, ho⟩ := zfact hc
  have hd : decode (zcode y) pc = .ok (.bastore, 1) := hd
  have hn : nxt = pc + 1 := hn
  subst hn
  unfold zx at hz
  dsimp only at hz
  split at hz
  · rename_i x i r st
    simp only [Option.some.injEq, Prod.mk.injEq] at hz
    obtain ⟨rfl, rfl, rfl, rfl, rfl⟩ := hz
    obtain ⟨⟨a, n, rfl, ha, hi⟩, h01⟩ := hp
    intro hlen L H locs hl hW hS hb0
    exact z_iast hx hb hK hW hS (t := 2) ha hi (Or.inr (Or.inl ⟨rfl, rfl, h01⟩)) hd (fun H1 locs1 hW1 hS1 => kk hlen L H1 locs1 hl hW1 hS1 (by rw [hW1.1]; show b0 ≤ zN M; rw [← hW.1]; exact hb0))
  · cases hz
theorem zx_castore  (C : zCx p R s m args meth c D cA y) (hc : zchkI y pc (.castore, nxt, aux, pos) = true) (ht : zchkT y (.castore, nxt, aux, pos) = true) (hcs : cells ≤ R.cells ∧ slots ≤ R.slots) (hz : zx (.castore, nxt, aux, pos) ls st M = some (ps, pc', ls', st', M')) (hp : zall ps) (kk : zGo p l e R s m args below meth c Q D cA b0 H0 y cells slots pc' ls' st' M') : zGo p l e R s m args below meth c Q D cA b0 H0 y cells slots pc ls st M := by
  obtain ⟨hx, hb, hml, hown, hts, hK, hin, hR1, hR2, hR3, hR4⟩ := C
  obtain ⟨hd, hn, ho⟩ := zfact hc
  have hd : decode (zcode y) pc = .ok (.castore, 1) := hd
  have hn : nxt = pc + 1 := hn
  subst hn
  unfold zx at hz
  dsimp only at hz
  split at hz
  · rename_i x i r st
    simp only [Option.some.injEq, Prod.mk.injEq] at hz
    obtain ⟨rfl, rfl, rfl, rfl, rfl⟩ := hz
    obtain ⟨⟨a, n, rfl, ha, hi⟩, h01⟩ := hp
    intro hlen L H locs hl hW hS hb0
    exact z_iast hx hb hK hW hS (t := 3) ha hi (Or.inr (Or.inr ⟨rfl, rfl, h01⟩)) hd (fun H1 locs1 hW1 hS1 => kk hlen L H1 locs1 hl hW1 hS1 (by rw [hW1.1]; show b0 ≤ zN M; rw [← hW.1]; exact hb0))
  · cases hz
theorem zx_lastore  (C : zCx p R s m args meth c D cA y) (hc : zchkI y pc (.lastore, nxt, aux, pos) = true) (ht : zchkT y (.lastore, nxt, aux, pos) = true) (hcs : cells ≤ R.cells ∧ slots ≤ R.slots) (hz : zx (.lastore, nxt, aux, pos) ls st M = some (ps, pc', ls', st', M')) (hp : zall ps) (kk : zGo p l e R s m args below meth c Q D cA b0 H0 y cells slots pc' ls' st' M') : zGo p l e R s m args below meth c Q D cA b0 H0 y cells slots pc ls st M := by
  obtain ⟨hx, hb, hml, hown, hts, hK, hin, hR1, hR2, hR3, hR4⟩ := C
  obtain ⟨hd, hn, ho⟩ := zfact hc
  have hd : decode (zcode y) pc = .ok (.lastore, 1) := hd
  have hn : nxt = pc + 1 := hn
  subst hn
  unfold zx at hz
  dsimp only at hz
  split at hz
  · rename_i x i r st
    simp only [Option.some.injEq, Prod.mk.injEq] at hz
    obtain ⟨rfl, rfl, rfl, rfl, rfl⟩ := hz
    obtain ⟨a, n, rfl, ha, hi⟩ := hp
    intro hlen L H locs hl hW hS hb0
    exact z_last hx hb hK hW hS ha hi hd (fun H1 locs1 hW1 hS1 => kk hlen L H1 locs1 hl hW1 hS1 (by rw [hW1.1]; show b0 ≤ zN M; rw [← hW.1]; exact hb0))
  · cases hz
theorem zx_aastore  (C : zCx p R s m args meth c D cA y) (hc : zchkI y pc (.aastore, nxt, aux, pos) = true) (ht : zchkT y (.aastore, nxt, aux, pos) = true) (hcs : cells ≤ R.cells ∧ slots ≤ R.slots) (hz : zx (.aastore, nxt, aux, pos) ls st M = some (ps, pc', ls', st', M')) (hp : zall ps) (kk : zGo p l e R s m args below meth c Q D cA b0 H0 y cells slots pc' ls' st' M') : zGo p l e R s m args below meth c Q D cA b0 H0 y cells slots pc ls st M := by
  obtain ⟨hx, hb, hml, hown, hts, hK, hin, hR1, hR2, hR3, hR4⟩ := C
  obtain ⟨hd, hn, ho⟩ := zfact hc
  have hd : decode (zcode y) pc = .ok (.aastore, 1) := hd
  have hn : nxt = pc + 1 := hn
  subst hn
  unfold zx at hz
  dsimp only at hz
  split at hz
  · rename_i v i r st
    simp only [Option.some.injEq, Prod.mk.injEq] at hz
    obtain ⟨rfl, rfl, rfl, rfl, rfl⟩ := hz
    intro hlen L H locs hl hW hS hb0
    rcases hp with ⟨⟨a, n, rfl, ha, hi⟩, b, rfl, hv⟩ | hF
    · exact z_aast hx hb hK hW hS (t := 2) rfl ha hv hi hd (fun H1 locs1 hW1 hS1 => kk hlen L H1 locs1 hl hW1 hS1 (by rw [hW1.1]; show b0 ≤ zN M; rw [← hW.1]; exact hb0))
    · exact hF.elim
  · cases hz
theorem zx_arraylength  (C : zCx p R s m args meth c D cA y) (hc : zchkI y pc (.arraylength, nxt, aux, pos) = true) (ht : zchkT y (.arraylength, nxt, aux, pos) = true) (hcs : cells ≤ R.cells ∧ slots ≤ R.slots) (hz : zx (.arraylength, nxt, aux, pos) ls st M = some (ps, pc', ls', st', M')) (hp : zall ps) (kk : zGo p l e R s m args below meth c Q D cA b0 H0 y cells slots pc' ls' st' M') : zGo p l e R s m args below meth c Q D cA b0 H0 y cells slots pc ls st M := by
  obtain ⟨hx, hb, hml, hown, hts, hK, hin, hR1, hR2, hR3, hR4⟩ := C
  obtain ⟨hd, hn, ho⟩ := zfact hc
  have hd : decode (zcode y) pc = .ok (.arraylength, 1) := hd
  have hn : nxt = pc + 1 := hn
  subst hn
  unfold zx at hz
  dsimp only at hz
  split at hz
  · rename_i r st
    simp only [Option.some.injEq, Prod.mk.injEq] at hz
    obtain ⟨rfl, rfl, rfl, rfl, rfl⟩ := hz
    intro hlen L H locs hl hW hS hb0
    obtain ⟨t, ht10, hs⟩ := hp
    obtain ⟨a, n, rfl, -, ha, e1⟩ := zis_some hs
    rw [e1] at kk
    by_cases h9 : t = 10
    · subst h9
      exact z_slen hx hb hK hW ha hd (kk hlen L H locs hl hW hS hb0)
    · exact z_alen hx hb hK hW (by omega) ha hd (kk hlen L H locs hl hW hS hb0)
  · cases hz
theorem zx_checkcast {i : Nat} (C : zCx p R s m args meth c D cA y) (hc : zchkI y pc (.checkcast i, nxt, aux, pos) = true) (ht : zchkT y (.checkcast i, nxt, aux, pos) = true) (hcs : cells ≤ R.cells ∧ slots ≤ R.slots) (hz : zx (.checkcast i, nxt, aux, pos) ls st M = some (ps, pc', ls', st', M')) (hp : zall ps) (kk : zGo p l e R s m args below meth c Q D cA b0 H0 y cells slots pc' ls' st' M') : zGo p l e R s m args below meth c Q D cA b0 H0 y cells slots pc ls st M := by
  obtain ⟨hx, hb, hml, hown, hts, hK, hin, hR1, hR2, hR3, hR4⟩ := C
  obtain ⟨hd, hn, ho⟩ := zfact hc
  have hd : decode (zcode y) pc = .ok (.checkcast i, 3) := hd
  have hn : nxt = pc + 3 := hn
  subst hn
  unfold zx at hz
  dsimp only at hz
  have hw := hts _ (zwd_in ho)
  split at hz
  · rename_i r st
    simp only [Option.some.injEq, Prod.mk.injEq] at hz
    obtain ⟨rfl, rfl, rfl, rfl, rfl⟩ := hz
    intro hlen L H locs hl hW hS hb0
    obtain ⟨a, n, rfl, ha⟩ := hp
    have hcell := z_arr (t := 0) hW ha
    intro T hT X
    obtain ⟨vm', X', stp⟩ := X.checkcastYes hx hown hw (by rw [hT]; exact hcell) rfl (hK.2.1 0 (by decide)).2 (va_asg _ _) (g := F0 m pc L (va_rf (some a) :: st.map zv)) rfl rfl (by rw [hb]; exact hd)
    obtain ⟨t, a1, b1⟩ := kk hlen L H locs hl hW hS hb0 (T.setVm vm') hT X'
    exact ⟨t, stp t a1, b1⟩
  · cases hz
theorem zn_max : Cond.static Lib.Math.max.name ∈ zU ∧ Cond.code Lib.Math.max.name Lib.Math.max.code 2 (some .int) ∈ zU := ⟨zwd_in (i := 2083) (by decide +kernel), zwd_in (i := 2084) (by decide +kernel)⟩
theorem zn_min : Cond.static Lib.Math.min.name ∈ zU ∧ Cond.code Lib.Math.min.name Lib.Math.min.code 2 (some .int) ∈ zU := ⟨zwd_in (i := 2067) (by decide +kernel), zwd_in (i := 2068) (by decide +kernel)⟩
theorem zn_minl : Cond.static Lib.MathLoose.min_long.x ∈ zU ∧ Cond.code Lib.MathLoose.min_long.x Lib.MathLoose.min_long.code 4 (some .long) ∈ zU := ⟨zwd_in (i := 2064) (by decide +kernel), zwd_in (i := 2065) (by decide +kernel)⟩
theorem zn_math : Cond.initialized "java/lang/Math" ∈ zU := zwd_in (i := 1018) (by decide +kernel)
theorem zn_obj : Cond.instanceMethod Lib.objectInit ∈ zU ∧ Cond.code Lib.objectInit ⟨#[0xb1]⟩ 1 none ∈ zU := ⟨zwd_in (i := 1028) (by decide +kernel), zwd_in (i := 1029) (by decide +kernel)⟩

theorem zx_static {i : Nat} (C : zCx p R s m args meth c D cA y) (hc : zchkI y pc (.invokestatic i, nxt, aux, pos) = true) (hcs : cells ≤ R.cells ∧ slots ≤ R.slots) (hz : zx (.invokestatic i, nxt, aux, pos) ls st M = some (ps, pc', ls', st', M')) (hp : zall ps) (kk : zGo p l e R s m args below meth c Q D cA b0 H0 y cells slots pc' ls' st' M') : zGo p l e R s m args below meth c Q D cA b0 H0 y cells slots pc ls st M := by
  obtain ⟨hx, hb, hml, hown, hts, hK, hin, hR1, hR2, hR3, hR4⟩ := C
  obtain ⟨hd, hn, ho⟩ := zfact hc
  have hd : decode (zcode y) pc = .ok (.invokestatic i, 3) := hd
  have hn : nxt = pc + 3 := hn
  subst hn
  simp only [zchkO, Bool.and_eq_true] at ho
  have hw := hts _ (zwd_in ho.1.1)
  unfold zx at hz
  dsimp only at hz
  cases hq : Nat.ble (zsum st) 10
  · rw [hq] at hz
    cases hz
  rw [hq] at hz
  have hsum : zsum st ≤ 10 := Nat.le_of_ble_eq_true hq
  simp only [cond_true] at hz
  split at hz
  · split at hz
    · rename_i y1 x1 st
      simp only [Option.some.injEq, Prod.mk.injEq] at hz
      obtain ⟨rfl, rfl, rfl, rfl, rfl⟩ := hz
      intro hlen L H locs hl hW hS hb0
      exact va_mmax hx hb (by rw [hml, hl.1, hlen]) hown hw (hts _ zn_max.1) (hts _ zn_math) (hts _ zn_max.2) hR1 (by rw [zsum_cat]; simp only [zsum, zc2, cond_true, cond_false] at hsum; omega) hcs.1 hcs.2 hd (kk hlen L H locs hl hW hS hb0)
    · cases hz
  · split at hz
    · rename_i y1 x1 st
      simp only [Option.some.injEq, Prod.mk.injEq] at hz
      obtain ⟨rfl, rfl, rfl, rfl, rfl⟩ := hz
      intro hlen L H locs hl hW hS hb0
      exact va_mmin hx hb (by rw [hml, hl.1, hlen]) hown hw (hts _ zn_min.1) (hts _ zn_math) (hts _ zn_min.2) hR1 (by rw [zsum_cat]; simp only [zsum, zc2, cond_true, cond_false] at hsum; omega) hcs.1 hcs.2 hd (kk hlen L H locs hl hW hS hb0)
    · cases hz
  · split at hz
    · rename_i y1 x1 st
      simp only [Option.some.injEq, Prod.mk.injEq] at hz
      obtain ⟨rfl, rfl, rfl, rfl, rfl⟩ := hz
      intro hlen L H locs hl hW hS hb0
      exact va_mmin_long hx hb (by rw [hml, hl.1, hlen]) hown hw (hts _ zn_minl.1) (hts _ zn_math) (hts _ zn_minl.2) hR1 (by rw [zsum_cat]; simp only [zsum, zc2, cond_true, cond_false] at hsum; omega) hcs.1 hcs.2 hd (kk hlen L H locs hl hW hS hb0)
    · cases hz
  · cases hz
theorem zx_special {i : Nat} (C : zCx p R s m args meth c D cA y) (hc : zchkI y pc (.invokespecial i, nxt, aux, pos) = true) (hcs : cells ≤ R.cells ∧ slots ≤ R.slots) (hz : zx (.invokespecial i, nxt, aux, pos) ls st M = some (ps, pc', ls', st', M')) (hp : zall ps) (kk : zGo p l e R s m args below meth c Q D cA b0 H0 y cells slots pc' ls' st' M') : zGo p l e R s m args below meth c Q D cA b0 H0 y cells slots pc ls st M := by
  obtain ⟨hx, hb, hml, hown, hts, hK, hin, hR1, hR2, hR3, hR4⟩ := C
  obtain ⟨hd, hn, ho⟩ := zfact hc
  have hd : decode (zcode y) pc = .ok (.invokespecial i, 3) := hd
  have hn : nxt = pc + 3 := hn
  subst hn
  unfold zx at hz
  dsimp only at hz
  cases hq : Nat.ble (zsum st) 10
  · rw [hq] at hz
    cases hz
  rw [hq] at hz
  have hsum : zsum st ≤ 10 := Nat.le_of_ble_eq_true hq
  simp only [cond_true] at hz
  split at hz
  · have hw : (Cond.methodLink (zown y) i Lib.objectInit).before args s = true := hts _ (zwd_in (i := pos) (by
      simp only [zchkO, Bool.or_eq_true, Bool.and_eq_true] at ho
      rcases ho with h | h
      · exact absurd (Nat.eq_of_beq_eq_true h) (by decide)
      · exact h.1))
    split at hz
    · rename_i r st
      simp only [Option.some.injEq, Prod.mk.injEq] at hz
      obtain ⟨rfl, rfl, rfl, rfl, rfl⟩ := hz
      obtain ⟨a, rfl⟩ := hp
      intro hlen L H locs hl hW hS hb0
      exact W.objInit hx hb hown hw (hts _ zn_obj.1) (hts _ zn_obj.2) (g := F0 m pc L (va_rf (some a) :: st.map zv)) rfl (by show L.size = _; rw [hml, hl.1, hlen]) rfl hd hR1 (by show 2 * 0 + _ + 12 ≤ _; rw [zsum_cat]; simp only [zsum, zc2, cond_true, cond_false] at hsum; omega) (kk hlen L H locs hl hW hS hb0)
    · cases hz
  · cases hz
end ZX
section ZXM
variable {p : Program} {l : Launch} {e : Env} {R : Room} {s : State} {m : MethodId} {args : Array Value} {below : List Frame} {meth : Method} {c : Code} {cells slots : Nat} {Q : State → Prop} {D : va_G} {cA : Nat → ClassId} {b0 : Nat} {H0 : Heap} {y : Nat}
variable {pc pc' : Nat} {ls ls' : zLs} {st st' : List zV} {M M' : zM} {ps : List Prop}
theorem zx_ok {z : zE} (hy : y < 299) (C : zCx p R s m args meth c D cA y) (he : zops y pc = some z) (hcs : cells ≤ R.cells ∧ slots ≤ R.slots) (hz : zx z ls st M = some (ps, pc', ls', st', M')) (hp : zall ps) (kk : zGo p l e R s m args below meth c Q D cA b0 H0 y cells slots pc' ls' st' M') : zGo p l e R s m args below meth c Q D cA b0 H0 y cells slots pc ls st M := by
  have hc := zchk_p y hy pc z he
  have ht := zchk_t hy he
  obtain ⟨ins, nxt, aux, pos⟩ := z
  cases ins with
  | aload_n k => exact zx_aload_n C hc ht hcs hz hp kk
  | aload k => exact zx_aload C hc ht hcs hz hp kk
  | iload_n k => exact zx_iload_n C hc ht hcs hz hp kk
  | iload k => exact zx_iload C hc ht hcs hz hp kk
  | lload_n k => exact zx_lload_n C hc ht hcs hz hp kk
  | lload k => exact zx_lload C hc ht hcs hz hp kk
  | fload_n k => exact zx_fload_n C hc ht hcs hz hp kk
  | fload k => exact zx_fload C hc ht hcs hz hp kk
  | dload_n k => exact zx_dload_n C hc ht hcs hz hp kk
  | dload k => exact zx_dload C hc ht hcs hz hp kk
  | astore_n k => exact zx_astore_n C hc ht hcs hz hp kk
  | astore k => exact zx_astore C hc ht hcs hz hp kk
  | istore_n k => exact zx_istore_n C hc ht hcs hz hp kk
  | istore k => exact zx_istore C hc ht hcs hz hp kk
  | lstore_n k => exact zx_lstore_n C hc ht hcs hz hp kk
  | lstore k => exact zx_lstore C hc ht hcs hz hp kk
  | fstore_n k => exact zx_fstore_n C hc ht hcs hz hp kk
  | fstore k => exact zx_fstore C hc ht hcs hz hp kk
  | dstore_n k => exact zx_dstore_n C hc ht hcs hz hp kk
  | dstore k => exact zx_dstore C hc ht hcs hz hp kk
  | iinc k n => exact zx_iinc C hc ht hcs hz hp kk
  | iconst n => exact zx_iconst C hc ht hcs hz hp kk
  | bipush n => exact zx_bipush C hc ht hcs hz hp kk
  | sipush n => exact zx_sipush C hc ht hcs hz hp kk
  | lconst n => exact zx_lconst C hc ht hcs hz hp kk
  | ldc2_w n => exact zx_ldc2 C hc ht hcs hz hp kk
  | fconst k => exact zx_fconst C hc ht hcs hz hp kk
  | dconst k => exact zx_dconst C hc ht hcs hz hp kk
  | ldc_w n => exact zx_ldcw C hc ht hcs hz hp kk
  | ldc n => exact zx_ldc1 C hc ht hcs hz hp kk
  | dup  => exact zx_dup C hc ht hcs hz hp kk
  | pop  => exact zx_pop C hc ht hcs hz hp kk
  | dup2  => exact zx_dup2 C hc ht hcs hz hp kk
  | iadd  => exact zx_iadd C hc ht hcs hz hp kk
  | isub  => exact zx_isub C hc ht hcs hz hp kk
  | imul  => exact zx_imul C hc ht hcs hz hp kk
  | iand  => exact zx_iand C hc ht hcs hz hp kk
  | ior  => exact zx_ior C hc ht hcs hz hp kk
  | ixor  => exact zx_ixor C hc ht hcs hz hp kk
  | ineg  => exact zx_ineg C hc ht hcs hz hp kk
  | ladd  => exact zx_ladd C hc ht hcs hz hp kk
  | lsub  => exact zx_lsub C hc ht hcs hz hp kk
  | lmul  => exact zx_lmul C hc ht hcs hz hp kk
  | land  => exact zx_land C hc ht hcs hz hp kk
  | lor  => exact zx_lor C hc ht hcs hz hp kk
  | lxor  => exact zx_lxor C hc ht hcs hz hp kk
  | ishl  => exact zx_ishl C hc ht hcs hz hp kk
  | ishr  => exact zx_ishr C hc ht hcs hz hp kk
  | i2f  => exact zx_i2f C hc ht hcs hz hp kk
  | i2d  => exact zx_i2d C hc ht hcs hz hp kk
  | l2d  => exact zx_l2d C hc ht hcs hz hp kk
  | idiv  => exact zx_idiv C hc ht hcs hz hp kk
  | irem  => exact zx_irem C hc ht hcs hz hp kk
  | ldiv  => exact zx_ldiv C hc ht hcs hz hp kk
  | lrem  => exact zx_lrem C hc ht hcs hz hp kk
  | fdiv  => exact zx_fdiv C hc ht hcs hz hp kk
  | ddiv  => exact zx_ddiv C hc ht hcs hz hp kk
  | f2d  => exact zx_f2d C hc ht hcs hz hp kk
  | iushr  => exact zx_iushr C hc ht hcs hz hp kk
  | lushr  => exact zx_lushr C hc ht hcs hz hp kk
  | lshl  => exact zx_lshl C hc ht hcs hz hp kk
  | i2l  => exact zx_i2l C hc ht hcs hz hp kk
  | l2i  => exact zx_l2i C hc ht hcs hz hp kk
  | i2c  => exact zx_i2c C hc ht hcs hz hp kk
  | lcmp  => exact zx_lcmp C hc ht hcs hz hp kk
  | fcmp op => exact zx_fcmp C hc ht hcs hz hp kk
  | dcmp op => exact zx_dcmp C hc ht hcs hz hp kk
  | goto off => exact zx_goto C hc ht hcs hz hp kk
  | getfield i => exact zx_getfield C hc ht hcs hz hp kk
  | putfield i => exact zx_putfield C hc ht hcs hz hp kk
  | iaload  => exact zx_iaload C hc ht hcs hz hp kk
  | laload  => exact zx_laload C hc ht hcs hz hp kk
  | baload  => exact zx_baload C hc ht hcs hz hp kk
  | caload  => exact zx_caload C hc ht hcs hz hp kk
  | aaload  => exact zx_aaload C hc ht hcs hz hp kk
  | iastore  => exact zx_iastore C hc ht hcs hz hp kk
  | bastore  => exact zx_bastore C hc ht hcs hz hp kk
  | castore  => exact zx_castore C hc ht hcs hz hp kk
  | lastore  => exact zx_lastore C hc ht hcs hz hp kk
  | aastore  => exact zx_aastore C hc ht hcs hz hp kk
  | arraylength  => exact zx_arraylength C hc ht hcs hz hp kk
  | checkcast i => exact zx_checkcast C hc ht hcs hz hp kk
  | invokestatic i => exact zx_static C hc hcs hz hp kk
  | invokespecial i => exact zx_special C hc hcs hz hp kk
  | _ => cases hz
end ZXM
