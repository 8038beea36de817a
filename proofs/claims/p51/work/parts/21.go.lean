/-! Branches, switches, makings. -/
section ZB
variable {p : Program} {l : Launch} {e : Env} {R : Room} {s : State} {m : MethodId} {args : Array Value} {below : List Frame} {meth : Method} {c : Code} {cells slots : Nat} {Q : State → Prop} {D : va_G} {cA : Nat → ClassId} {b0 : Nat} {H0 : Heap} {y : Nat}
variable {pc nxt aux pos t f : Nat} {ls : zLs} {st st' : List zV} {M : zM} {q : Prop}
theorem zb_ifCond_eq {off : Int} (C : zCx p R s m args meth c D cA y) (hc : zchkI y pc (.ifCond .eq off, nxt, aux, pos) = true) (hz : zb (.ifCond .eq off, nxt, aux, pos) st = some (q, t, f, st')) (kt : q → zGo p l e R s m args below meth c Q D cA b0 H0 y cells slots t ls st' M) (kf : ¬ q → zGo p l e R s m args below meth c Q D cA b0 H0 y cells slots f ls st' M) : zGo p l e R s m args below meth c Q D cA b0 H0 y cells slots pc ls st M := by
  obtain ⟨hx, hb, hml, hown, hts, hK, hin, hR1, hR2, hR3, hR4⟩ := C
  obtain ⟨hd, hn, ho⟩ := zfact hc
  have hd : decode (zcode y) pc = .ok (.ifCond .eq off, 3) := hd
  have hn : nxt = pc + 3 := hn
  subst hn
  simp only [zchkO, decide_eq_true_eq] at ho
  unfold zb at hz
  dsimp only at hz
  split at hz
  · simp only [Option.some.injEq, Prod.mk.injEq] at hz
    obtain ⟨rfl, rfl, rfl, rfl⟩ := hz
    intro hlen L H locs hl hW hS hb0
    exact lv_if_eq hx hb hd ho (fun q => kt q hlen L H locs hl hW hS hb0) (fun q => kf q hlen L H locs hl hW hS hb0)
  · cases hz
theorem zb_if_icmp_eq {off : Int} (C : zCx p R s m args meth c D cA y) (hc : zchkI y pc (.if_icmp .eq off, nxt, aux, pos) = true) (hz : zb (.if_icmp .eq off, nxt, aux, pos) st = some (q, t, f, st')) (kt : q → zGo p l e R s m args below meth c Q D cA b0 H0 y cells slots t ls st' M) (kf : ¬ q → zGo p l e R s m args below meth c Q D cA b0 H0 y cells slots f ls st' M) : zGo p l e R s m args below meth c Q D cA b0 H0 y cells slots pc ls st M := by
  obtain ⟨hx, hb, hml, hown, hts, hK, hin, hR1, hR2, hR3, hR4⟩ := C
  obtain ⟨hd, hn, ho⟩ := zfact hc
  have hd : decode (zcode y) pc = .ok (.if_icmp .eq off, 3) := hd
  have hn : nxt = pc + 3 := hn
  subst hn
  simp only [zchkO, decide_eq_true_eq] at ho
  unfold zb at hz
  dsimp only at hz
  split at hz
  · simp only [Option.some.injEq, Prod.mk.injEq] at hz
    obtain ⟨rfl, rfl, rfl, rfl⟩ := hz
    intro hlen L H locs hl hW hS hb0
    exact lv_icmp_eq hx hb hd ho (fun q => kt q hlen L H locs hl hW hS hb0) (fun q => kf q hlen L H locs hl hW hS hb0)
  · cases hz
theorem zb_ifCond_ne {off : Int} (C : zCx p R s m args meth c D cA y) (hc : zchkI y pc (.ifCond .ne off, nxt, aux, pos) = true) (hz : zb (.ifCond .ne off, nxt, aux, pos) st = some (q, t, f, st')) (kt : q → zGo p l e R s m args below meth c Q D cA b0 H0 y cells slots t ls st' M) (kf : ¬ q → zGo p l e R s m args below meth c Q D cA b0 H0 y cells slots f ls st' M) : zGo p l e R s m args below meth c Q D cA b0 H0 y cells slots pc ls st M := by
  obtain ⟨hx, hb, hml, hown, hts, hK, hin, hR1, hR2, hR3, hR4⟩ := C
  obtain ⟨hd, hn, ho⟩ := zfact hc
  have hd : decode (zcode y) pc = .ok (.ifCond .ne off, 3) := hd
  have hn : nxt = pc + 3 := hn
  subst hn
  simp only [zchkO, decide_eq_true_eq] at ho
  unfold zb at hz
  dsimp only at hz
  split at hz
  · simp only [Option.some.injEq, Prod.mk.injEq] at hz
    obtain ⟨rfl, rfl, rfl, rfl⟩ := hz
    intro hlen L H locs hl hW hS hb0
    exact lv_if_ne hx hb hd ho (fun q => kt q hlen L H locs hl hW hS hb0) (fun q => kf (fun h => h q) hlen L H locs hl hW hS hb0)
  · cases hz
theorem zb_if_icmp_ne {off : Int} (C : zCx p R s m args meth c D cA y) (hc : zchkI y pc (.if_icmp .ne off, nxt, aux, pos) = true) (hz : zb (.if_icmp .ne off, nxt, aux, pos) st = some (q, t, f, st')) (kt : q → zGo p l e R s m args below meth c Q D cA b0 H0 y cells slots t ls st' M) (kf : ¬ q → zGo p l e R s m args below meth c Q D cA b0 H0 y cells slots f ls st' M) : zGo p l e R s m args below meth c Q D cA b0 H0 y cells slots pc ls st M := by
  obtain ⟨hx, hb, hml, hown, hts, hK, hin, hR1, hR2, hR3, hR4⟩ := C
  obtain ⟨hd, hn, ho⟩ := zfact hc
  have hd : decode (zcode y) pc = .ok (.if_icmp .ne off, 3) := hd
  have hn : nxt = pc + 3 := hn
  subst hn
  simp only [zchkO, decide_eq_true_eq] at ho
  unfold zb at hz
  dsimp only at hz
  split at hz
  · simp only [Option.some.injEq, Prod.mk.injEq] at hz
    obtain ⟨rfl, rfl, rfl, rfl⟩ := hz
    intro hlen L H locs hl hW hS hb0
    exact lv_icmp_ne hx hb hd ho (fun q => kt q hlen L H locs hl hW hS hb0) (fun q => kf (fun h => h q) hlen L H locs hl hW hS hb0)
  · cases hz
theorem zb_ifCond_lt {off : Int} (C : zCx p R s m args meth c D cA y) (hc : zchkI y pc (.ifCond .lt off, nxt, aux, pos) = true) (hz : zb (.ifCond .lt off, nxt, aux, pos) st = some (q, t, f, st')) (kt : q → zGo p l e R s m args below meth c Q D cA b0 H0 y cells slots t ls st' M) (kf : ¬ q → zGo p l e R s m args below meth c Q D cA b0 H0 y cells slots f ls st' M) : zGo p l e R s m args below meth c Q D cA b0 H0 y cells slots pc ls st M := by
  obtain ⟨hx, hb, hml, hown, hts, hK, hin, hR1, hR2, hR3, hR4⟩ := C
  obtain ⟨hd, hn, ho⟩ := zfact hc
  have hd : decode (zcode y) pc = .ok (.ifCond .lt off, 3) := hd
  have hn : nxt = pc + 3 := hn
  subst hn
  simp only [zchkO, decide_eq_true_eq] at ho
  unfold zb at hz
  dsimp only at hz
  split at hz
  · simp only [Option.some.injEq, Prod.mk.injEq] at hz
    obtain ⟨rfl, rfl, rfl, rfl⟩ := hz
    intro hlen L H locs hl hW hS hb0
    exact lv_if_lt hx hb hd ho (fun q => kt q hlen L H locs hl hW hS hb0) (fun q => kf q hlen L H locs hl hW hS hb0)
  · cases hz
theorem zb_if_icmp_lt {off : Int} (C : zCx p R s m args meth c D cA y) (hc : zchkI y pc (.if_icmp .lt off, nxt, aux, pos) = true) (hz : zb (.if_icmp .lt off, nxt, aux, pos) st = some (q, t, f, st')) (kt : q → zGo p l e R s m args below meth c Q D cA b0 H0 y cells slots t ls st' M) (kf : ¬ q → zGo p l e R s m args below meth c Q D cA b0 H0 y cells slots f ls st' M) : zGo p l e R s m args below meth c Q D cA b0 H0 y cells slots pc ls st M := by
  obtain ⟨hx, hb, hml, hown, hts, hK, hin, hR1, hR2, hR3, hR4⟩ := C
  obtain ⟨hd, hn, ho⟩ := zfact hc
  have hd : decode (zcode y) pc = .ok (.if_icmp .lt off, 3) := hd
  have hn : nxt = pc + 3 := hn
  subst hn
  simp only [zchkO, decide_eq_true_eq] at ho
  unfold zb at hz
  dsimp only at hz
  split at hz
  · simp only [Option.some.injEq, Prod.mk.injEq] at hz
    obtain ⟨rfl, rfl, rfl, rfl⟩ := hz
    intro hlen L H locs hl hW hS hb0
    exact lv_icmp_lt hx hb hd ho (fun q => kt q hlen L H locs hl hW hS hb0) (fun q => kf q hlen L H locs hl hW hS hb0)
  · cases hz
theorem zb_ifCond_ge {off : Int} (C : zCx p R s m args meth c D cA y) (hc : zchkI y pc (.ifCond .ge off, nxt, aux, pos) = true) (hz : zb (.ifCond .ge off, nxt, aux, pos) st = some (q, t, f, st')) (kt : q → zGo p l e R s m args below meth c Q D cA b0 H0 y cells slots t ls st' M) (kf : ¬ q → zGo p l e R s m args below meth c Q D cA b0 H0 y cells slots f ls st' M) : zGo p l e R s m args below meth c Q D cA b0 H0 y cells slots pc ls st M := by
  obtain ⟨hx, hb, hml, hown, hts, hK, hin, hR1, hR2, hR3, hR4⟩ := C
  obtain ⟨hd, hn, ho⟩ := zfact hc
  have hd : decode (zcode y) pc = .ok (.ifCond .ge off, 3) := hd
  have hn : nxt = pc + 3 := hn
  subst hn
  simp only [zchkO, decide_eq_true_eq] at ho
  unfold zb at hz
  dsimp only at hz
  split at hz
  · simp only [Option.some.injEq, Prod.mk.injEq] at hz
    obtain ⟨rfl, rfl, rfl, rfl⟩ := hz
    intro hlen L H locs hl hW hS hb0
    exact lv_if_ge hx hb hd ho (fun q => kt q hlen L H locs hl hW hS hb0) (fun q => kf q hlen L H locs hl hW hS hb0)
  · cases hz
theorem zb_if_icmp_ge {off : Int} (C : zCx p R s m args meth c D cA y) (hc : zchkI y pc (.if_icmp .ge off, nxt, aux, pos) = true) (hz : zb (.if_icmp .ge off, nxt, aux, pos) st = some (q, t, f, st')) (kt : q → zGo p l e R s m args below meth c Q D cA b0 H0 y cells slots t ls st' M) (kf : ¬ q → zGo p l e R s m args below meth c Q D cA b0 H0 y cells slots f ls st' M) : zGo p l e R s m args below meth c Q D cA b0 H0 y cells slots pc ls st M := by
  obtain ⟨hx, hb, hml, hown, hts, hK, hin, hR1, hR2, hR3, hR4⟩ := C
  obtain ⟨hd, hn, ho⟩ := zfact hc
  have hd : decode (zcode y) pc = .ok (.if_icmp .ge off, 3) := hd
  have hn : nxt = pc + 3 := hn
  subst hn
  simp only [zchkO, decide_eq_true_eq] at ho
  unfold zb at hz
  dsimp only at hz
  split at hz
  · simp only [Option.some.injEq, Prod.mk.injEq] at hz
    obtain ⟨rfl, rfl, rfl, rfl⟩ := hz
    intro hlen L H locs hl hW hS hb0
    exact lv_icmp_ge hx hb hd ho (fun q => kt q hlen L H locs hl hW hS hb0) (fun q => kf q hlen L H locs hl hW hS hb0)
  · cases hz
theorem zb_ifCond_gt {off : Int} (C : zCx p R s m args meth c D cA y) (hc : zchkI y pc (.ifCond .gt off, nxt, aux, pos) = true) (hz : zb (.ifCond .gt off, nxt, aux, pos) st = some (q, t, f, st')) (kt : q → zGo p l e R s m args below meth c Q D cA b0 H0 y cells slots t ls st' M) (kf : ¬ q → zGo p l e R s m args below meth c Q D cA b0 H0 y cells slots f ls st' M) : zGo p l e R s m args below meth c Q D cA b0 H0 y cells slots pc ls st M := by
  obtain ⟨hx, hb, hml, hown, hts, hK, hin, hR1, hR2, hR3, hR4⟩ := C
  obtain ⟨hd, hn, ho⟩ := zfact hc
  have hd : decode (zcode y) pc = .ok (.ifCond .gt off, 3) := hd
  have hn : nxt = pc + 3 := hn
  subst hn
  simp only [zchkO, decide_eq_true_eq] at ho
  unfold zb at hz
  dsimp only at hz
  split at hz
  · simp only [Option.some.injEq, Prod.mk.injEq] at hz
    obtain ⟨rfl, rfl, rfl, rfl⟩ := hz
    intro hlen L H locs hl hW hS hb0
    exact lv_if_gt hx hb hd ho (fun q => kt q hlen L H locs hl hW hS hb0) (fun q => kf q hlen L H locs hl hW hS hb0)
  · cases hz
theorem zb_if_icmp_gt {off : Int} (C : zCx p R s m args meth c D cA y) (hc : zchkI y pc (.if_icmp .gt off, nxt, aux, pos) = true) (hz : zb (.if_icmp .gt off, nxt, aux, pos) st = some (q, t, f, st')) (kt : q → zGo p l e R s m args below meth c Q D cA b0 H0 y cells slots t ls st' M) (kf : ¬ q → zGo p l e R s m args below meth c Q D cA b0 H0 y cells slots f ls st' M) : zGo p l e R s m args below meth c Q D cA b0 H0 y cells slots pc ls st M := by
  obtain ⟨hx, hb, hml, hown, hts, hK, hin, hR1, hR2, hR3, hR4⟩ := C
  obtain ⟨hd, hn, ho⟩ := zfact hc
  have hd : decode (zcode y) pc = .ok (.if_icmp .gt off, 3) := hd
  have hn : nxt = pc + 3 := hn
  subst hn
  simp only [zchkO, decide_eq_true_eq] at ho
  unfold zb at hz
  dsimp only at hz
  split at hz
  · simp only [Option.some.injEq, Prod.mk.injEq] at hz
    obtain ⟨rfl, rfl, rfl, rfl⟩ := hz
    intro hlen L H locs hl hW hS hb0
    exact lv_icmp_gt hx hb hd ho (fun q => kt q hlen L H locs hl hW hS hb0) (fun q => kf q hlen L H locs hl hW hS hb0)
  · cases hz
theorem zb_ifCond_le {off : Int} (C : zCx p R s m args meth c D cA y) (hc : zchkI y pc (.ifCond .le off, nxt, aux, pos) = true) (hz : zb (.ifCond .le off, nxt, aux, pos) st = some (q, t, f, st')) (kt : q → zGo p l e R s m args below meth c Q D cA b0 H0 y cells slots t ls st' M) (kf : ¬ q → zGo p l e R s m args below meth c Q D cA b0 H0 y cells slots f ls st' M) : zGo p l e R s m args below meth c Q D cA b0 H0 y cells slots pc ls st M := by
  obtain ⟨hx, hb, hml, hown, hts, hK, hin, hR1, hR2, hR3, hR4⟩ := C
  obtain ⟨hd, hn, ho⟩ := zfact hc
  have hd : decode (zcode y) pc = .ok (.ifCond .le off, 3) := hd
  have hn : nxt = pc + 3 := hn
  subst hn
  simp only [zchkO, decide_eq_true_eq] at ho
  unfold zb at hz
  dsimp only at hz
  split at hz
  · simp only [Option.some.injEq, Prod.mk.injEq] at hz
    obtain ⟨rfl, rfl, rfl, rfl⟩ := hz
    intro hlen L H locs hl hW hS hb0
    exact lv_if_le hx hb hd ho (fun q => kt q hlen L H locs hl hW hS hb0) (fun q => kf q hlen L H locs hl hW hS hb0)
  · cases hz
theorem zb_if_icmp_le {off : Int} (C : zCx p R s m args meth c D cA y) (hc : zchkI y pc (.if_icmp .le off, nxt, aux, pos) = true) (hz : zb (.if_icmp .le off, nxt, aux, pos) st = some (q, t, f, st')) (kt : q → zGo p l e R s m args below meth c Q D cA b0 H0 y cells slots t ls st' M) (kf : ¬ q → zGo p l e R s m args below meth c Q D cA b0 H0 y cells slots f ls st' M) : zGo p l e R s m args below meth c Q D cA b0 H0 y cells slots pc ls st M := by
  obtain ⟨hx, hb, hml, hown, hts, hK, hin, hR1, hR2, hR3, hR4⟩ := C
  obtain ⟨hd, hn, ho⟩ := zfact hc
  have hd : decode (zcode y) pc = .ok (.if_icmp .le off, 3) := hd
  have hn : nxt = pc + 3 := hn
  subst hn
  simp only [zchkO, decide_eq_true_eq] at ho
  unfold zb at hz
  dsimp only at hz
  split at hz
  · simp only [Option.some.injEq, Prod.mk.injEq] at hz
    obtain ⟨rfl, rfl, rfl, rfl⟩ := hz
    intro hlen L H locs hl hW hS hb0
    exact lv_icmp_le hx hb hd ho (fun q => kt q hlen L H locs hl hW hS hb0) (fun q => kf q hlen L H locs hl hW hS hb0)
  · cases hz
theorem zb_ifnull {off : Int} (C : zCx p R s m args meth c D cA y) (hc : zchkI y pc (.ifnull off, nxt, aux, pos) = true) (hz : zb (.ifnull off, nxt, aux, pos) st = some (q, t, f, st')) (kt : q → zGo p l e R s m args below meth c Q D cA b0 H0 y cells slots t ls st' M) (kf : ¬ q → zGo p l e R s m args below meth c Q D cA b0 H0 y cells slots f ls st' M) : zGo p l e R s m args below meth c Q D cA b0 H0 y cells slots pc ls st M := by
  obtain ⟨hx, hb, hml, hown, hts, hK, hin, hR1, hR2, hR3, hR4⟩ := C
  obtain ⟨hd, hn, ho⟩ := zfact hc
  have hd : decode (zcode y) pc = .ok (.ifnull off, 3) := hd
  have hn : nxt = pc + 3 := hn
  subst hn
  simp only [zchkO, decide_eq_true_eq] at ho
  unfold zb at hz
  dsimp only at hz
  split at hz
  · rename_i x st
    simp only [Option.some.injEq, Prod.mk.injEq] at hz
    obtain ⟨rfl, rfl, rfl, rfl⟩ := hz
    intro hlen L H locs hl hW hS hb0
    cases x with
    | none => exact lv_ifnullN hx hb hd ho (kt rfl hlen L H locs hl hW hS hb0)
    | some a => exact lv_ifnull hx hb hd (kf (fun h => by cases h) hlen L H locs hl hW hS hb0)
  · cases hz
theorem zb_ifnonnull {off : Int} (C : zCx p R s m args meth c D cA y) (hc : zchkI y pc (.ifnonnull off, nxt, aux, pos) = true) (hz : zb (.ifnonnull off, nxt, aux, pos) st = some (q, t, f, st')) (kt : q → zGo p l e R s m args below meth c Q D cA b0 H0 y cells slots t ls st' M) (kf : ¬ q → zGo p l e R s m args below meth c Q D cA b0 H0 y cells slots f ls st' M) : zGo p l e R s m args below meth c Q D cA b0 H0 y cells slots pc ls st M := by
  obtain ⟨hx, hb, hml, hown, hts, hK, hin, hR1, hR2, hR3, hR4⟩ := C
  obtain ⟨hd, hn, ho⟩ := zfact hc
  have hd : decode (zcode y) pc = .ok (.ifnonnull off, 3) := hd
  have hn : nxt = pc + 3 := hn
  subst hn
  simp only [zchkO, decide_eq_true_eq] at ho
  unfold zb at hz
  dsimp only at hz
  split at hz
  · rename_i x st
    simp only [Option.some.injEq, Prod.mk.injEq] at hz
    obtain ⟨rfl, rfl, rfl, rfl⟩ := hz
    intro hlen L H locs hl hW hS hb0
    cases x with
    | none => exact lv_ifnonnullN hx hb hd (kf (fun h => h rfl) hlen L H locs hl hW hS hb0)
    | some a => exact lv_ifnonnull hx hb hd ho (kt (fun h => by cases h) hlen L H locs hl hW hS hb0)
  · cases hz
theorem zb_ok {z : zE} (hy : y < 299) (C : zCx p R s m args meth c D cA y) (he : zops y pc = some z) (hz : zb z st = some (q, t, f, st')) (kt : q → zGo p l e R s m args below meth c Q D cA b0 H0 y cells slots t ls st' M) (kf : ¬ q → zGo p l e R s m args below meth c Q D cA b0 H0 y cells slots f ls st' M) : zGo p l e R s m args below meth c Q D cA b0 H0 y cells slots pc ls st M := by
  have hc := zchk_p y hy pc z he
  obtain ⟨ins, nxt, aux, pos⟩ := z
  cases ins with
  | ifCond op off =>
    cases op
    case eq => exact zb_ifCond_eq C hc hz kt kf
    case ne => exact zb_ifCond_ne C hc hz kt kf
    case lt => exact zb_ifCond_lt C hc hz kt kf
    case ge => exact zb_ifCond_ge C hc hz kt kf
    case gt => exact zb_ifCond_gt C hc hz kt kf
    case le => exact zb_ifCond_le C hc hz kt kf
  | if_icmp op off =>
    cases op
    case eq => exact zb_if_icmp_eq C hc hz kt kf
    case ne => exact zb_if_icmp_ne C hc hz kt kf
    case lt => exact zb_if_icmp_lt C hc hz kt kf
    case ge => exact zb_if_icmp_ge C hc hz kt kf
    case gt => exact zb_if_icmp_gt C hc hz kt kf
    case le => exact zb_if_icmp_le C hc hz kt kf
  | ifnull off => exact zb_ifnull C hc hz kt kf
  | ifnonnull off => exact zb_ifnonnull C hc hz kt kf
  | _ => cases hz
theorem zlk_off : ∀ (ps : List (Int × Int)) (d x : Int), 0 ≤ (pc : Int) + d → (∀ q ∈ ps, 0 ≤ (pc : Int) + q.2) → 0 ≤ (pc : Int) + Op.lookupswitch.offset ps d x
  | [], d, x, h, _ => h
  | (a, b) :: r, d, x, h, hp => by
    unfold Op.lookupswitch.offset
    split
    · exact hp _ List.mem_cons_self
    · exact zlk_off r d x h (fun q hq => hp q (List.mem_cons_of_mem _ hq))
theorem zsw_ok {z : zE} (hy : y < 299) (C : zCx p R s m args meth c D cA y) (he : zops y pc = some z) (hz : zsw z pc st = some (t, st')) (kt : zGo p l e R s m args below meth c Q D cA b0 H0 y cells slots t ls st' M) : zGo p l e R s m args below meth c Q D cA b0 H0 y cells slots pc ls st M := by
  have hc := zchk_p y hy pc z he
  obtain ⟨ins, nxt, aux, pos⟩ := z
  obtain ⟨hx, hb, hml, hown, hts, hK, hin, hR1, hR2, hR3, hR4⟩ := C
  obtain ⟨hd, hn, ho⟩ := zfact hc
  cases ins with
  | lookupswitch d ps =>
    simp only [zchkO, Bool.and_eq_true, decide_eq_true_eq, List.all_eq_true] at ho
    unfold zsw at hz
    dsimp only at hz
    split at hz
    · rename_i x st
      simp only [Option.some.injEq, Prod.mk.injEq] at hz
      obtain ⟨rfl, rfl⟩ := hz
      intro hlen L H locs hl hW hS hb0
      have h0 := zlk_off (pc := pc) ps.toList d x.toInt ho.1.2 (fun q hq => by simpa using ho.2 q hq)
      exact lv_lookup hx hb hd (List.all_eq_true.mpr (by simpa using ho.1.1)) rfl (Int.toNat_of_nonneg h0).symm (kt hlen L H locs hl hW hS hb0)
    · cases hz
  | tableswitch d lo hi offs =>
    simp only [zchkO, Bool.and_eq_true, decide_eq_true_eq, List.all_eq_true] at ho
    unfold zsw at hz
    dsimp only at hz
    split at hz
    · rename_i x st
      simp only [Option.some.injEq, Prod.mk.injEq] at hz
      obtain ⟨rfl, rfl⟩ := hz
      intro hlen L H locs hl hW hS hb0
      have kt' := kt hlen L H locs hl hW hS hb0
      by_cases h : x.toInt < lo ∨ hi < x.toInt
      · rw [if_pos h] at kt'
        exact lv_tableOut hx hb hd h (Int.toNat_of_nonneg ho.1.2).symm kt'
      · rw [if_neg h] at kt'
        have h1 : ¬ x.toInt < lo := fun q => h (Or.inl q)
        have h2 : ¬ hi < x.toInt := fun q => h (Or.inr q)
        have hlt : (x.toInt - lo).toNat < offs.size := by
          have := ho.1.1
          omega
        have e1 : offs[(x.toInt - lo).toNat]? = some (offs.getD (x.toInt - lo).toNat d) := by
          rw [Array.getD_eq_getD_getElem?, Array.getElem?_eq_getElem hlt]
          rfl
        have hm : offs.getD (x.toInt - lo).toNat d ∈ offs.toList := by
          have h5 := Array.mem_of_getElem? e1
          exact Array.mem_toList_iff.mpr h5
        have h0 : 0 ≤ (pc : Int) + offs.getD (x.toInt - lo).toNat d := by simpa using ho.2 _ hm
        exact lv_tableIn hx hb hd h1 h2 e1 (Int.toNat_of_nonneg h0).symm kt'
    · cases hz
  | _ => cases hz
end ZB
/-! makings -/
theorem zin_ok {t : Nat} (ht : t < 8) : Cond.instantiable (zR t) (zNf t) ∈ zU ∧ Cond.initialized (zR t) ∈ zU := by
  have h1 : ∀ t, t < 8 → zwd (zinp t) (.instantiable (zR t) (zNf t)) = true := fun t ht => co8 (P := fun t => zwd (zinp t) (.instantiable (zR t) (zNf t)) = true) (by decide +kernel) (by decide +kernel) (by decide +kernel) (by decide +kernel) (by decide +kernel) (by decide +kernel) (by decide +kernel) (by decide +kernel) ht
  have h2 : ∀ t, t < 8 → zwd (zcip t) (.initialized (zR t)) = true := fun t ht => co8 (P := fun t => zwd (zcip t) (.initialized (zR t)) = true) (by decide +kernel) (by decide +kernel) (by decide +kernel) (by decide +kernel) (by decide +kernel) (by decide +kernel) (by decide +kernel) (by decide +kernel) ht
  exact ⟨zwd_in (h1 t ht), zwd_in (h2 t ht)⟩
theorem zarr_ok {j : Nat} (hj : j < 5) : Cond.arrayClass (zel j) ∈ zU := by
  rcases (show j = 0 ∨ j = 1 ∨ j = 2 ∨ j = 3 ∨ j = 4 by omega) with rfl | rfl | rfl | rfl | rfl
  · exact zwd_in (i := 1066) (by decide +kernel)
  · exact zwd_in (i := 1094) (by decide +kernel)
  · exact zwd_in (i := 3061) (by decide +kernel)
  · exact zwd_in (i := 1067) (by decide +kernel)
  · exact zwd_in (i := 1066) (by decide +kernel)
section ZMM
variable {p : Program} {l : Launch} {e : Env} {R : Room} {s : State} {m : MethodId} {args : Array Value} {below : List Frame} {meth : Method} {c : Code} {cells slots : Nat} {Q : State → Prop} {D : va_G} {cA : Nat → ClassId} {b0 : Nat} {H0 : Heap} {y : Nat}
variable {cc : ByteArray} {L : Array Slot} {H : Heap} {locs : List Loc} {rest : List Value} {M : zM}
theorem z_multi {cl : ClassId} {counts : List Int32} {k n : Nat} {f : zM → zM} {F : zM → State → State} (hx : p.tables.exec = Jvm.exec) (hb : c.code = cc) {own name : String} {index pc : Nat} (hown : s.vm.findClass own = some m.cls) (hw : (Cond.classLink own index name).before args s = true) (hfc : s.vm.findClass name = some cl)
    (hmk : ∀ vm1, s.vm.Alike vm1 → zMaker p l e R s m args below meth c D cA b0 H0 (F0 m pc L rest) vm1 cl counts k n f F) (hW : zWd D cA b0 M H) (hb0 : b0 ≤ H.size) (hS : va_S (fun q => b0 ≤ q) H0 H locs) (hcells : cells + k ≤ R.cells) (hslots : slots + n ≤ R.slots)
    (hct : (∃ n1 n2, counts = [n1, n2]) ∨ ∃ n1 n2 n3, counts = [n1, n2, n3]) (hdg : decode cc pc = .ok (.multianewarray index counts.length, 4))
    (kk : ∀ (H1 : Heap) (locs1 : List Loc), zWd D cA b0 (f M) H1 → va_S (fun q => b0 ≤ q) H0 H1 locs1 → b0 ≤ H1.size → W p l e R s m args below meth c H1 locs1 (cells + k) (slots + n) Q (F0 m (pc + 4) L (.ref (zN M) :: rest))) : W p l e R s m args below meth c H locs cells slots Q (F0 m pc L ((counts.reverse.map fun x => Value.int x) ++ rest)) := by
  intro T hT X
  subst hT
  have hpl : e.platform.magicAccessors = ({} : Platform).magicAccessors := by rw [X.admits.platform]
  obtain ⟨c0, hfc0, hcl⟩ := Cond.classLink_spec hown hw e.platform hpl
  cases hfc.symm.trans hfc0
  obtain ⟨hg₁, hwarm₁, hready₁⟩ := State.classEntry (e := e) X.warmed hcl
  generalize T.vm.noted m.cls index (.cls cl) = vm₁ at hg₁ hwarm₁ hready₁
  have X₁ := X.noted hwarm₁
  have hM : zMk p l e R s m args below meth c D cA b0 H0 (F0 m pc L rest) vm₁ cells slots M ((T.setVm vm₁).setTop (F0 m pc L rest)) := ⟨T.setVm vm₁, locs, rfl, X₁, hW, hS, rfl, hb0⟩
  obtain ⟨⟨T2, locs2, e2, X2, hW2, hS2, hvm2, hb2⟩, gw⟩ := hmk vm₁ hwarm₁.alike M _ cells slots hM hcells hslots
  obtain ⟨t, a1, b1⟩ := kk T2.heap locs2 hW2 hS2 hb2 T2 rfl X2
  refine ⟨t, ?_, b1⟩
  have hdg' : decode c.code pc = .ok (.multianewarray index counts.length, 4) := by rw [hb]; exact hdg
  have eS : ∀ g : JFrame, ((T.setTop g).setVm vm₁).setTop (F0 m pc L rest) = (T.setVm vm₁).setTop (F0 m pc L rest) := fun g => by
    show ((T.setVm vm₁).setTop g).setTop _ = _
    rw [State.setTop_setTop]
  rcases hct with ⟨n1, n2, rfl⟩ | ⟨n1, n2, n3, rfl⟩
  · jvm_step X.here [hx, hdg']
    simp only [List.length_cons, List.length_nil, multianewarray.sem, wp_bind', W.resolveClassAt_links (State.method?_setTop (F0 m pc L (.int n2 :: .int n1 :: rest)) X.here.top) hg₁]
    rw [W.popN, if_neg (by decide)]
    refine ⟨F0 m pc L (.int n2 :: .int n1 :: rest), State.topJava?_setTop' (s := T.setVm vm₁) _ X.here.top, [.int n1, .int n2], rest, rfl, rfl, ?_⟩
    simp only [List.mapM_cons, List.mapM_nil, wp_bind', wp_pure']
    rw [eS]
    refine gw _ _ _ _ fun d' acts' => ?_
    rw [e2]
    simp only [wp_bind', W.mark, W.pushRef, State.topJava?_setTop' _ X2.here.top, Option.some.injEq, exists_eq_left', State.setTop_setTop, State.heap_setTop]
    intro acts
    simp [jvm, X2.here.top]
    exact a1
  · jvm_step X.here [hx, hdg']
    simp only [List.length_cons, List.length_nil, multianewarray.sem, wp_bind', W.resolveClassAt_links (State.method?_setTop (F0 m pc L (.int n3 :: .int n2 :: .int n1 :: rest)) X.here.top) hg₁]
    rw [W.popN, if_neg (by decide)]
    refine ⟨F0 m pc L (.int n3 :: .int n2 :: .int n1 :: rest), State.topJava?_setTop' (s := T.setVm vm₁) _ X.here.top, [.int n1, .int n2, .int n3], rest, rfl, rfl, ?_⟩
    simp only [List.mapM_cons, List.mapM_nil, wp_bind', wp_pure']
    rw [eS]
    refine gw _ _ _ _ fun d' acts' => ?_
    rw [e2]
    simp only [wp_bind', W.mark, W.pushRef, State.topJava?_setTop' _ X2.here.top, Option.some.injEq, exists_eq_left', State.setTop_setTop, State.heap_setTop]
    intro acts
    simp [jvm, X2.here.top]
    exact a1
end ZMM
