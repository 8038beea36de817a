/-! Makings, copies, a cast -/
theorem zty_nf : ∀ t, t < 8 → ∀ k, k < zNf t → zty t k ≠ .float := by
  intro t ht
  exact co8 (P := fun t => ∀ k, k < zNf t → zty t k ≠ .float) (by decide +kernel) (by decide +kernel) (by decide +kernel) (by decide +kernel) (by decide +kernel) (by decide +kernel) (by decide +kernel) (by decide +kernel) ht
section ZM
variable {p : Program} {l : Launch} {e : Env} {R : Room} {s : State} {m : MethodId} {args : Array Value} {below : List Frame} {meth : Method} {c : Code} {H : Heap} {locs : List Loc} {cells slots : Nat} {Q : State → Prop}
variable {cc : ByteArray} {pc : Nat} {ls : Array Slot} {rest : List Value} {D : va_G} {cA : Nat → ClassId} {b0 : Nat} {M : zM} {H0 : Heap} {own : String}
theorem zWd.push (hW : zWd D cA b0 M H) (hb : b0 ≤ H.size) {H1 : Heap} {t n : Nat} (ht : t < 8 ∨ (20 ≤ t ∧ t < 30)) (hz : H1.size = H.size + 1) (ho : ∀ q : Nat, q < H.size → H1[q]? = H[q]?) (hat : zat D cA (znew M t n) H1 (zN M) t n) : zWd D cA b0 (znew M t n) H1 := by
  obtain ⟨h1, h2, h3⟩ := hW
  refine ⟨by rw [hz, h1]; rfl, fun a t' n' ha => ?_, fun a ha => ?_⟩
  · by_cases e : a = zN M
    · subst e
      have : (some (t, n) : Option (Nat × Nat)) = some (t', n') := by
        rw [← ha]
        simp [zK, znew]
      cases this
      exact ⟨Or.inr ⟨by omega, ht⟩, hat⟩
    · have hk : zK M a = some (t', n') := by
        rw [← ha]
        simp only [zK, znew, if_neg e]
      obtain ⟨g1, g3⟩ := h2 a t' n' hk
      refine ⟨g1, ?_⟩
      have hlt : a < H.size := by
        rw [h1]
        rcases Nat.lt_or_ge a (zN M) with q | q
        · exact q
        · have := (h3 a q).1
          rw [hk] at this
          cases this
      unfold zat at g3 ⊢
      by_cases e8 : t' < 8
      · rw [if_pos e8] at g3 ⊢
        exact g3.kept (ho a hlt)
      · rw [if_neg e8] at g3 ⊢
        by_cases e30 : t' = 30
        · rw [if_pos e30] at g3 ⊢
          obtain ⟨scr, q1, q⟩ := g3
          exact ⟨scr, by rw [ho a hlt]; exact q1, q⟩
        · rw [if_neg e30] at g3 ⊢
          rw [ho a hlt]
          exact g3
  · have ha' : zN M < a := ha
    obtain ⟨f1, f2, f3, f4⟩ := h3 a (by omega)
    refine ⟨?_, f2, f3, f4⟩
    show (if a = zN M then some (t, n) else zK M a) = none
    rw [if_neg (by omega)]
    exact f1
theorem va_S.grow {A : Nat → Prop} {H1 : Heap} (hS : va_S A H0 H locs) (hz : H.size ≤ H1.size) (ho : ∀ q : Nat, q < H.size → H1[q]? = H[q]?) : va_S A H0 H1 locs := ⟨Nat.le_trans hS.1 hz, fun x h1 h2 => (ho x (Nat.lt_of_lt_of_le h1 hS.1)).trans (hS.2.1 x h1 h2), hS.2.2⟩
theorem z_new (hx : p.tables.exec = Jvm.exec) (hb : c.code = cc) (hts : ∀ w ∈ zU, w.before args s = true) (hown : s.vm.findClass own = some m.cls) (hK : zKn D cA s) (hW : zWd D cA b0 M H) (hb0 : b0 ≤ H.size) (hS : va_S (fun q => b0 ≤ q) H0 H locs) {t index : Nat} (ht : t < 8) (hcl : Cond.classLink own index (zR t) ∈ zU) (hinst : Cond.instantiable (zR t) (zNf t) ∈ zU) (hini : Cond.initialized (zR t) ∈ zU) (hcells : cells + 1 ≤ R.cells) (hslots : slots + zNf t ≤ R.slots) (hdg : decode cc pc = .ok (.new index, 3))
    (kk : ∀ H1 : Heap, zWd D cA b0 (znew M t 0) H1 → va_S (fun q => b0 ≤ q) H0 H1 locs → H.size ≤ H1.size → W p l e R s m args below meth c H1 locs (cells + 1) (slots + zNf t) Q (F0 m (pc + 3) ls (.ref (zN M) :: rest))) : W p l e R s m args below meth c H locs cells slots Q (F0 m pc ls rest) := by
  have hKn := hK.1 t ht
  refine W.newcK hx hb hown (hts _ hcl) (hts _ hinst) (hts _ hini) rfl hdg hcells hslots hKn.2.1 hW.1 fun H1 kC hkC e1 z1 o1 => ?_
  rw [← hW.1] at e1 z1 o1
  refine kk H1 (hW.push hb0 (Or.inl ht) z1 o1 ?_) (hS.grow (by omega) o1) (by omega)
  unfold zat
  rw [if_pos ht, ← hW.1]
  obtain ⟨-, f2, f3, f4⟩ := hW.2.2 H.size (by rw [hW.1]; exact Nat.le_refl _)
  refine (u_born (zty t) hts (zu_in t ht) hKn hkC e1 (zty_ok t ht)).to (fun k hk => ?_)
  have g2 : zI (znew M t 0) H.size k = 0 := f2 k
  have g3 : zL (znew M t 0) H.size k = 0 := f3 k
  have g4 : zP (znew M t 0) H.size k = none := f4 k
  have hty := zty_nf t ht k hk
  cases h : zty t k <;> simp only [zval, defaultValue, g2, g3, g4, va_rf] <;> first | rfl | exact absurd h hty
theorem z_def {j : Nat} (hj : j < 10) {a : Nat} (h : zfresh M a) (k : Nat) : defaultValue (zel j) = zval (zel j) M a k := by
  obtain ⟨-, f2, f3, f4⟩ := h
  rcases (show j = 0 ∨ j = 1 ∨ j = 2 ∨ j = 3 ∨ j = 4 ∨ j = 5 ∨ j = 6 ∨ j = 7 ∨ j = 8 ∨ j = 9 by omega) with rfl | rfl | rfl | rfl | rfl | rfl | rfl | rfl | rfl | rfl <;> simp only [zel, zval, defaultValue, f2, f3, f4, va_rf] <;> rfl
theorem z_newa (hx : p.tables.exec = Jvm.exec) (hb : c.code = cc) (hK : zKn D cA s) (hW : zWd D cA b0 M H) (hb0 : b0 ≤ H.size) (hS : va_S (fun q => b0 ≤ q) H0 H locs) {j : Nat} (hj : j < 5) {atype : ArrayType} (hty : newarray.typeOf atype = zel j) (harr : (Cond.arrayClass (zel j)).before args s = true) {n : Int32} (hn : ¬ n < 0) (hn2 : n.toNatClampNeg < 1000000) (hcells : cells + 1 ≤ R.cells) (hslots : slots + n.toNatClampNeg ≤ R.slots) (hdg : decode cc pc = .ok (.newarray atype, 2))
    (kk : ∀ H1 : Heap, zWd D cA b0 (znew M (20 + j) n.toNatClampNeg) H1 → va_S (fun q => b0 ≤ q) H0 H1 locs → H.size ≤ H1.size → W p l e R s m args below meth c H1 locs (cells + 1) (slots + n.toNatClampNeg) Q (F0 m (pc + 2) ls (.ref (zN M) :: rest))) : W p l e R s m args below meth c H locs cells slots Q (F0 m pc ls (.int n :: rest)) := by
  refine va_newaK hx hb (by rw [hty]; exact harr) rfl hdg rfl hn rfl ?_ hcells hslots hW.1 fun H1 cB e1 z1 o1 hAr hNm => ?_
  · have : componentBytes (newarray.typeOf atype) ≤ 8 := by cases atype <;> decide
    have h2 := Nat.mul_le_mul (Nat.le_of_lt hn2) this
    omega
  · rw [← hW.1] at z1 o1
    have hcB : cB = cA j := by
      have hRA := (hK.2.1 j (by omega)).2
      rw [hty] at hNm
      rcases (show j = 0 ∨ j = 1 ∨ j = 2 ∨ j = 3 ∨ j = 4 by omega) with rfl | rfl | rfl | rfl | rfl <;> exact Option.some.inj (hNm.symm.trans hRA)
    refine kk H1 (hW.push hb0 (Or.inr ⟨by omega, by omega⟩) z1 o1 ?_) (hS.grow (by omega) o1) (by omega)
    unfold zat
    rw [if_neg (by omega), if_neg (by omega), show 20 + j - 20 = j by omega, e1, hcB, hty]
    congr 2
    funext k
    exact z_def (M := M) (by omega) (hW.2.2 _ (Nat.le_refl _)) k
theorem z_anew (hx : p.tables.exec = Jvm.exec) (hb : c.code = cc) (hts : ∀ w ∈ zU, w.before args s = true) (hown : s.vm.findClass own = some m.cls) (hK : zKn D cA s) (hW : zWd D cA b0 M H) (hb0 : b0 ≤ H.size) (hS : va_S (fun q => b0 ≤ q) H0 H locs) {j index : Nat} {C : String} (hj : j = 7 ∨ j = 8) (hC : zel j = .object C) (hcl : Cond.classLink own index C ∈ zU) (hover : va_AO C s) {n : Int32} (hn : ¬ n < 0) (hn2 : n.toNatClampNeg < 1000000) (hcells : cells + 1 ≤ R.cells) (hslots : slots + n.toNatClampNeg ≤ R.slots) (hdg : decode cc pc = .ok (.anewarray index, 3))
    (kk : ∀ H1 : Heap, zWd D cA b0 (znew M (20 + j) n.toNatClampNeg) H1 → va_S (fun q => b0 ≤ q) H0 H1 locs → H.size ≤ H1.size → W p l e R s m args below meth c H1 locs (cells + 1) (slots + n.toNatClampNeg) Q (F0 m (pc + 3) ls (.ref (zN M) :: rest))) : W p l e R s m args below meth c H locs cells slots Q (F0 m pc ls (.int n :: rest)) := by
  refine W.anew hx hb hown (hts _ hcl) (va_AO.use hover) rfl hdg rfl hn (by omega) hcells hslots fun cB kA comp f1 f2 f3 f4 => ?_
  generalize hH1 : H.push ({ cls := cB, slots := Array.replicate n.toNatClampNeg .null, vm := .none } : Cell) = H1
  have z1 : H1.size = H.size + 1 := by rw [← hH1, Array.size_push]
  have e1 : H1[H.size]? = some (arrV cB n.toNatClampNeg (fun _ => .null)) := by rw [← hH1, Array.getElem?_push_size, ← arrV_new]
  have o1 : ∀ q : Nat, q < H.size → H1[q]? = H[q]? := fun q hq => by rw [← hH1, Array.getElem?_push, if_neg (Nat.ne_of_lt hq)]
  have hcB : cB = cA j := by
    have hRA := (hK.2.1 j (by omega)).2
    rw [hC] at hRA
    obtain ⟨_, _, _, _, _, k4⟩ := hRA
    exact Option.some.inj (f1.symm.trans k4)
  rw [hW.1]
  refine kk H1 (hW.push hb0 (Or.inr ⟨by omega, by omega⟩) z1 o1 ?_) (hS.grow (by omega) o1) (by omega)
  unfold zat
  rw [if_neg (by omega), if_neg (by omega), show 20 + j - 20 = j by omega, ← hW.1, e1, hcB]
  congr 2
  funext k
  obtain ⟨-, -, -, f4'⟩ := hW.2.2 H.size (by rw [hW.1]; exact Nat.le_refl _)
  rw [hC]
  show _ = va_rf (zP M H.size k)
  rw [f4']
  rfl
theorem z_copy (hx : p.tables.exec = Jvm.exec) (hb : c.code = cc) (hml : c.maxLocals = ls.size) {index : Nat} (hown : s.vm.findClass own = some m.cls) (hlink : (Cond.methodLink own index arraycopyName).before args s = true) (hnat : (Cond.native arraycopyName).before args s = true) (hstat : (Cond.static arraycopyName).before args s = true) (hini : (Cond.initialized "java/lang/System").before args s = true)
    (hK : zKn D cA s) (hW : zWd D cA b0 M H) (hS : va_S (fun q => b0 ≤ q) H0 H locs) {a a0 n0 n1 : Nat} (ha0 : zK M a0 = some (20, n0)) (ha1 : zK M a = some (20, n1)) {sp dp n : Int32} (h1 : ¬ sp < 0) (h2 : ¬ dp < 0) (h3 : ¬ n < 0) (h4 : sp.toNatClampNeg + n.toNatClampNeg ≤ n0) (h5 : dp.toNatClampNeg + n.toNatClampNeg ≤ n1)
    (hframes : 1 ≤ R.frames) (hlocals : (rest.map fun v => v.category).sum + (nativeFrameWords "java/lang/System" "arraycopy" 5 + 11) ≤ R.locals) (hdg : decode cc pc = .ok (.invokestatic index, 3))
    (kk : ∀ (H1 : Heap) (locs1 : List Loc), zWd D cA b0 (zcopy M a0 sp.toNatClampNeg a dp.toNatClampNeg n.toNatClampNeg) H1 → va_S (fun q => b0 ≤ q) H0 H1 locs1 → W p l e R s m args below meth c H1 locs1 cells slots Q (F0 m (pc + 3) ls rest)) : W p l e R s m args below meth c H locs cells slots Q (F0 m pc ls (.int n :: .int dp :: .ref a :: .int sp :: .ref a0 :: rest)) := by
  have nn : ∀ z : Int32, ¬ z < 0 → z.toInt = (z.toNatClampNeg : Int) := by
    intro z hz
    have hz0 : (0 : Int) ≤ z.toInt := by
      have := Int32.not_lt.mp hz
      simpa using Int32.le_iff_toInt_le.mp this
    show z.toInt = ((z.toInt.toNat : Nat) : Int)
    omega
  intro T hT X
  have hc0 : H[a0]? = some (vp_cell (cA 0) (n0, .inl (zI M a0))) := z_arr (t := 0) hW ha0
  have hc1 : H[a]? = some (vp_cell (cA 0) (n1, .inl (zI M a))) := z_arr (t := 0) hW ha1
  obtain ⟨-, k0, hk0, cm0, hkk0⟩ := (hK.2.1 0 (by decide)).1 n0 (fun j => .int (zI M a0 j))
  obtain ⟨-, k1, hk1, cm1, hkk1⟩ := (hK.2.1 0 (by decide)).1 n1 (fun j => .int (zI M a j))
  obtain ⟨vm', X', step⟩ := X.arraycopy hx hown hlink hnat hstat hini (src := a0) (dst := a) (cs := vp_cell (cA 0) (n0, .inl (zI M a0))) (cd := vp_cell (cA 0) (n1, .inl (zI M a))) (srcPos := sp) (destPos := dp) (n := n) (by rw [hT]; exact hc0) (by rw [hT]; exact hc1)
    (fun _ h => by cases h) (fun _ h => by cases h) (fun h => by cases h) (fun h => by cases h) hk0 hk1 hkk0 hkk1 (by simp [zel, refKind]) h1 h2 h3
    (by rw [nn sp h1, nn n h3]; show ¬ _ > ((arrV (cA 0) n0 (fun j => .int (zI M a0 j))).slots.size : Int); rw [arrV_size]; omega)
    (by rw [nn dp h2, nn n h3]; show ¬ _ > ((arrV (cA 0) n1 (fun j => .int (zI M a j))).slots.size : Int); rw [arrV_size]; omega)
    (fun vm₁ _ i hi => by
      have e : (vp_cell (cA 0) (n0, .inl (zI M a0))).slots.getD (sp.toNatClampNeg + i) .null = .int (zI M a0 (sp.toNatClampNeg + i)) := by
        show (arrV (cA 0) n0 (fun j => .int (zI M a0 j))).slots.getD _ _ = _
        rw [Array.getD_eq_getD_getElem?, arrV_read _ _ (by omega)]
        rfl
      refine ⟨?_, ?_⟩
      · rw [e]
        rfl
      · rw [e]
        exact trivial)
    (g := F0 m pc ls (.int n :: .int dp :: .ref a :: .int sp :: .ref a0 :: rest)) rfl (by rw [hml]) (rest := rest) rfl (by rw [hb]; exact hdg) hframes (by show 2 * 0 + _ + _ ≤ _; omega)
  have e1 : copied (vp_cell (cA 0) (n0, .inl (zI M a0))) (vp_cell (cA 0) (n1, .inl (zI M a))) sp dp n = vp_cell (cA 0) (n1, .inl (va_cpy (zI M a0) (zI M a) sp.toNatClampNeg dp.toNatClampNeg n.toNatClampNeg)) := va_copied (fun z => .int z) (cA 0) (cA 0) (zI M a0) (zI M a) h4
  rw [e1] at X' step
  have hl : a < H.size := (Array.getElem?_eq_some_iff.mp hc1).1
  have hheap : ((T.setVm vm').setCell a (vp_cell (cA 0) (n1, .inl (va_cpy (zI M a0) (zI M a) sp.toNatClampNeg dp.toNatClampNeg n.toNatClampNeg)))).heap = H.setIfInBounds a (vp_cell (cA 0) (n1, .inl (va_cpy (zI M a0) (zI M a) sp.toNatClampNeg dp.toNatClampNeg n.toNatClampNeg))) := by rw [← hT]; rfl
  have oq : ∀ q : Nat, q ≠ a → (H.setIfInBounds a (vp_cell (cA 0) (n1, .inl (va_cpy (zI M a0) (zI M a) sp.toNatClampNeg dp.toNatClampNeg n.toNatClampNeg))))[q]? = H[q]? := fun q hq => by simp [Array.getElem?_setIfInBounds, Ne.symm hq]
  obtain ⟨t, a1, b1⟩ := kk _ _ (z_arrW (t := 0) hW ha1 (by simp) oq rfl rfl (fun b hb k => by simp [zI, zcopy, hb]) (fun b hb k => rfl) (fun b hb k => rfl) (by
      rw [Array.getElem?_setIfInBounds, if_pos rfl, if_pos hl, vp_cell_i]
      congr 2
      funext k
      by_cases hk : dp.toNatClampNeg ≤ k ∧ k < dp.toNatClampNeg + n.toNatClampNeg
      · simp [zval, zel, zI, zcopy, va_cpy, hk]
      · simp [zval, zel, zI, zcopy, va_cpy, hk])) ⟨by simp; exact hS.1, fun q g1 g2 => by
      rw [oq q (fun e => g2 (by rw [e]; exact (hW.own ha1)))]
      exact hS.2.1 q g1 g2, fun q hq => by
      rcases List.mem_append.mp hq with h | h
      · exact hS.2.2 q h
      · obtain ⟨z, -, hz⟩ := List.mem_map.mp h
        rw [← hz]
        exact (hW.own ha1)⟩ _ hheap X'
  exact ⟨t, step t a1, b1⟩
end ZM
