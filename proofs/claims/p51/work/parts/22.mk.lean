/-! Each making of zmk is one step of the machine. -/
section ZMO
variable {p : Program} {l : Launch} {e : Env} {R : Room} {s : State} {m : MethodId} {args : Array Value} {below : List Frame} {meth : Method} {c : Code} {cells slots : Nat} {Q : State → Prop} {D : va_G} {cA : Nat → ClassId} {b0 : Nat} {H0 : Heap} {y : Nat}
variable {pc nxt k n N : Nat} {ls : zLs} {st st' : List zV} {M M' : zM} {ps : List Prop}
theorem zfc5 (hK : zKn D cA s) : s.vm.findClass "[[I" = some (cA 5) := by
  have h := (hK.2.1 5 (by decide)).2
  have e1 : ("[" ++ (FieldType.array FieldType.int).toString) = "[[I" := by decide
  have h2 : s.vm.findClass ("[" ++ (FieldType.array FieldType.int).toString) = some (cA 5) := h
  rw [e1] at h2
  exact h2
theorem zmk_ok {z : zE} (hy : y < 299) (C : zCx p R s m args meth c D cA y) (hE : zEv D cA s) (he : zops y pc = some z) (hz : zmk z st M = some (ps, nxt, k, n, N, st', M')) (hp : zall ps) (hcells : cells + k ≤ R.cells) (hslots : slots + n ≤ R.slots)
    (kk : zfresh M (zN M) → zGo p l e R s m args below meth c Q D cA b0 H0 y (cells + k) (slots + n) nxt ls st' M') : zGo p l e R s m args below meth c Q D cA b0 H0 y cells slots pc ls st M := by
  have hc := zchk_p y hy pc z he
  have ht := zchk_t hy he
  obtain ⟨ins, nx, aux, pos⟩ := z
  obtain ⟨hx, hb, hml, hown, hts, hK, hin, hR1, hR2, hR3, hR4⟩ := C
  obtain ⟨hd, hn, ho⟩ := zfact hc
  cases ins with
  | new i =>
    have hd : decode (zcode y) pc = .ok (.new i, 3) := hd
    have hn : nx = pc + 3 := hn
    subst hn
    unfold zmk at hz
    dsimp only at hz
    simp only [zchkO] at ho
    cases hq : Nat.ble 1000 aux
    · rw [hq] at hz ho
      simp only [cond_false, Option.some.injEq, Prod.mk.injEq] at hz
      obtain ⟨rfl, rfl, rfl, rfl, rfl, rfl, rfl⟩ := hz
      simp only [cond_false, Bool.and_eq_true] at ho
      have h8 : aux < 8 := Nat.le_of_ble_eq_true ho.1
      intro hlen L H locs hl hW hS hb0
      exact z_new hx hb hts hown hK hW hb0 hS h8 (zwd_in ho.2) (zin_ok h8).1 (zin_ok h8).2 hcells hslots hd fun H1 hW1 hS1 hz1 => kk (hW.2.2 _ (Nat.le_refl _)) hlen L H1 locs hl hW1 hS1 (Nat.le_trans hb0 hz1)
    · rw [hq] at hz
      cases hz
  | newarray a =>
    have hd : decode (zcode y) pc = .ok (.newarray a, 2) := hd
    have hn : nx = pc + 2 := hn
    subst hn
    unfold zmk at hz
    dsimp only at hz
    simp only [zchkO, Bool.and_eq_true, decide_eq_true_eq] at ho
    have h5 : aux < 5 := Nat.le_of_ble_eq_true ho.1
    split at hz
    · rename_i x st
      simp only [Option.some.injEq, Prod.mk.injEq] at hz
      obtain ⟨rfl, rfl, rfl, rfl, rfl, rfl, rfl⟩ := hz
      intro hlen L H locs hl hW hS hb0
      exact z_newa hx hb hK hW hb0 hS h5 ho.2 (hts _ (zarr_ok h5)) hp.1 hp.2 hcells hslots hd fun H1 hW1 hS1 hz1 => kk (hW.2.2 _ (Nat.le_refl _)) hlen L H1 locs hl hW1 hS1 (Nat.le_trans hb0 hz1)
    · cases hz
  | anewarray i =>
    have hd : decode (zcode y) pc = .ok (.anewarray i, 3) := hd
    have hn : nx = pc + 3 := hn
    subst hn
    unfold zmk at hz
    dsimp only at hz
    simp only [zchkO, Bool.and_eq_true, Bool.or_eq_true] at ho
    have h78 : aux = 7 ∨ aux = 8 := ho.1.imp Nat.eq_of_beq_eq_true Nat.eq_of_beq_eq_true
    split at hz
    · rename_i x st
      simp only [Option.some.injEq, Prod.mk.injEq] at hz
      obtain ⟨rfl, rfl, rfl, rfl, rfl, rfl, rfl⟩ := hz
      intro hlen L H locs hl hW hS hb0
      have hC : zel aux = .object (zaN aux) := by rcases h78 with rfl | rfl <;> rfl
      have hO : va_AO (zaN aux) s := by
        rcases h78 with rfl | rfl
        · exact hE.2.2.1.1
        · exact hE.2.2.1.2
      exact z_anew hx hb hts hown hK hW hb0 hS h78 hC (zwd_in ho.2) hO hp.1 hp.2 hcells hslots hd fun H1 hW1 hS1 hz1 => kk (hW.2.2 _ (Nat.le_refl _)) hlen L H1 locs hl hW1 hS1 (Nat.le_trans hb0 hz1)
    · cases hz
  | multianewarray i dm =>
    have hd : decode (zcode y) pc = .ok (.multianewarray i dm, 4) := hd
    have hn : nx = pc + 4 := hn
    subst hn
    simp only [zchkT, Bool.and_eq_true] at ht
    obtain ⟨hw, hdm⟩ := ht
    have hw := hts _ (zwd_in hw)
    unfold zmk at hz
    dsimp only at hz
    split at hz
    · rename_i n2 n1 st hd
      simp only [Option.some.injEq, Prod.mk.injEq] at hz
      obtain ⟨rfl, rfl, rfl, rfl, rfl, rfl, rfl⟩ := hz
      obtain ⟨h1, h2, h3, h4⟩ := hp
      intro hlen L H locs hl hW hS hb0
      exact z_multi (counts := [n1, n2]) (rest := st.map zv) hx hb hown hw (zfc5 hK) (fun vm1 hal => z_makerR hal (i := 5) (j := 0) (Or.inl rfl) hK.2.2.2 h1 h2 (by simp) (by simp [h3]) (zkeeps_new _ _) (z_maker1 hal hK (Or.inl rfl) h3 h4)) hW hb0 hS hcells hslots (Or.inl ⟨n1, n2, rfl⟩) hd
        fun H1 locs1 hW1 hS1 hb1 => kk (hW.2.2 _ (Nat.le_refl _)) hlen L H1 locs1 hl hW1 hS1 hb1
    · cases hz
  | _ => cases hz
end ZMO
