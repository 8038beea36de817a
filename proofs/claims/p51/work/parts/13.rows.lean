theorem z01_nar {x : Int32} (h : z01 x) : narrow .boolean (.int x) = .int x ∧ fits .boolean (.int x) = true := by
  rcases h with rfl | rfl <;> exact ⟨by decide, by decide⟩
theorem zch_nar {x : Int32} (h : zch x) : narrow .char (.int x) = .int x ∧ fits .char (.int x) = true := by
  obtain ⟨n, hn, rfl⟩ := h
  exact pk_charN hn
theorem zrf_fit (ty : FieldType) (r : Option Nat) (h : ztk ty = 2) : narrow ty (va_rf r) = va_rf r ∧ fits ty (va_rf r) = true := by
  cases ty <;> simp [ztk] at h <;> cases r <;> exact ⟨rfl, rfl⟩
/-- what putting a field does -/
theorem zfput_ok {M M' : zM} {ty : FieldType} {a k : Nat} {v : zV} {ps : List Prop} (h : zfput M (ztk ty) a k v = some (ps, M')) (hp : zall ps) :
    zK M' = zK M ∧ zN M' = zN M ∧ (∀ b, b ≠ a → ∀ j, zI M' b j = zI M b j) ∧ (∀ b, b ≠ a → ∀ j, zL M' b j = zL M b j) ∧ (∀ b, b ≠ a → ∀ j, zP M' b j = zP M b j) ∧
    (∀ j, j ≠ k → zI M' a j = zI M a j ∧ zL M' a j = zL M a j ∧ zP M' a j = zP M a j) ∧ zval ty M' a k = zv v ∧ narrow ty (zv v) = zv v ∧ fits ty (zv v) = true := by
  have kI : ∀ x, zK (zwI M a k x) = zK M ∧ zN (zwI M a k x) = zN M ∧ (∀ b, b ≠ a → ∀ j, zI (zwI M a k x) b j = zI M b j) ∧ (∀ b, b ≠ a → ∀ j, zL (zwI M a k x) b j = zL M b j) ∧ (∀ b, b ≠ a → ∀ j, zP (zwI M a k x) b j = zP M b j) ∧
    (∀ j, j ≠ k → zI (zwI M a k x) a j = zI M a j ∧ zL (zwI M a k x) a j = zL M a j ∧ zP (zwI M a k x) a j = zP M a j) ∧ zI (zwI M a k x) a k = x := fun x =>
    ⟨rfl, rfl, fun b hb j => by simp [zI, zwI, hb], fun b hb j => rfl, fun b hb j => rfl, fun j hj => ⟨by simp [zI, zwI, hj], rfl, rfl⟩, by simp [zI, zwI]⟩
  have kL : ∀ x, zK (zwL M a k x) = zK M ∧ zN (zwL M a k x) = zN M ∧ (∀ b, b ≠ a → ∀ j, zI (zwL M a k x) b j = zI M b j) ∧ (∀ b, b ≠ a → ∀ j, zL (zwL M a k x) b j = zL M b j) ∧ (∀ b, b ≠ a → ∀ j, zP (zwL M a k x) b j = zP M b j) ∧
    (∀ j, j ≠ k → zI (zwL M a k x) a j = zI M a j ∧ zL (zwL M a k x) a j = zL M a j ∧ zP (zwL M a k x) a j = zP M a j) ∧ zL (zwL M a k x) a k = x := fun x =>
    ⟨rfl, rfl, fun b hb j => rfl, fun b hb j => by simp [zL, zwL, hb], fun b hb j => rfl, fun j hj => ⟨rfl, by simp [zL, zwL, hj], rfl⟩, by simp [zL, zwL]⟩
  have kP : ∀ x, zK (zwP M a k x) = zK M ∧ zN (zwP M a k x) = zN M ∧ (∀ b, b ≠ a → ∀ j, zI (zwP M a k x) b j = zI M b j) ∧ (∀ b, b ≠ a → ∀ j, zL (zwP M a k x) b j = zL M b j) ∧ (∀ b, b ≠ a → ∀ j, zP (zwP M a k x) b j = zP M b j) ∧
    (∀ j, j ≠ k → zI (zwP M a k x) a j = zI M a j ∧ zL (zwP M a k x) a j = zL M a j ∧ zP (zwP M a k x) a j = zP M a j) ∧ zP (zwP M a k x) a k = x := fun x =>
    ⟨rfl, rfl, fun b hb j => rfl, fun b hb j => rfl, fun b hb j => by simp [zP, zwP, hb], fun j hj => ⟨rfl, rfl, by simp [zP, zwP, hj]⟩, by simp [zP, zwP]⟩
  obtain x | x | x | x | x := v <;> cases ty <;> simp only [ztk, zfput, Option.some.injEq, Prod.mk.injEq, reduceCtorEq] at h
  all_goals (obtain ⟨rfl, rfl⟩ := h)
  · obtain ⟨h1, h2, h3, h4, h5, h6, h7⟩ := kI x
    exact ⟨h1, h2, h3, h4, h5, h6, congrArg Value.int h7, (zch_nar hp).1, (zch_nar hp).2⟩
  · obtain ⟨h1, h2, h3, h4, h5, h6, h7⟩ := kI x
    exact ⟨h1, h2, h3, h4, h5, h6, congrArg Value.int h7, rfl, rfl⟩
  · obtain ⟨h1, h2, h3, h4, h5, h6, h7⟩ := kI x
    exact ⟨h1, h2, h3, h4, h5, h6, congrArg Value.int h7, (z01_nar hp).1, (z01_nar hp).2⟩
  · obtain ⟨h1, h2, h3, h4, h5, h6, h7⟩ := kL x
    exact ⟨h1, h2, h3, h4, h5, h6, congrArg Value.long h7, rfl, rfl⟩
  · obtain ⟨h1, h2, h3, h4, h5, h6, h7⟩ := kP x
    exact ⟨h1, h2, h3, h4, h5, h6, congrArg va_rf h7, (zrf_fit _ _ rfl).1, (zrf_fit _ _ rfl).2⟩
  · obtain ⟨h1, h2, h3, h4, h5, h6, h7⟩ := kP x
    exact ⟨h1, h2, h3, h4, h5, h6, congrArg va_rf h7, (zrf_fit _ _ rfl).1, (zrf_fit _ _ rfl).2⟩
theorem zfget_ok {M : zM} {ty : FieldType} {a k : Nat} {v : zV} (h : zfget M (ztk ty) a k = some v) : zval ty M a k = zv v := by
  cases ty <;> simp only [ztk, zfget, Option.some.injEq, reduceCtorEq] at h <;> subst h <;> rfl
section ZR
variable {p : Program} {l : Launch} {e : Env} {R : Room} {s : State} {m : MethodId} {args : Array Value} {below : List Frame} {meth : Method} {c : Code} {H : Heap} {locs : List Loc} {cells slots : Nat} {Q : State → Prop}
variable {cc : ByteArray} {pc : Nat} {ls : Array Slot} {rest : List Value} {D : va_G} {cA : Nat → ClassId} {b0 : Nat} {M : zM} {H0 : Heap} {own : String}
theorem z_get (hx : p.tables.exec = Jvm.exec) (hb : c.code = cc) (hts : ∀ w ∈ zU, w.before args s = true) (hown : s.vm.findClass own = some m.cls) (hK : zKn D cA s) (hW : zWd D cA b0 M H) {a t k index : Nat} (ha : zK M a = some (t, 0)) (ht : t < 8) (hk : k < zNf t) (hl : Cond.fieldLink own index (zT t k).1 (zT t k).2.1 (zT t k).2.2.1 ∈ zU) (hdg : decode cc pc = .ok (.getfield index, 3))
    (kk : W p l e R s m args below meth c H locs cells slots Q (F0 m (pc + 3) ls (zval (zty t k) M a k :: rest))) : W p l e R s m args below meth c H locs cells slots Q (F0 m pc ls (.ref a :: rest)) := by
  have g := (hW.2.1 a t 0 ha).2
  unfold zat at g
  rw [if_pos ht] at g
  obtain ⟨cell, q1, q2, q3, q4⟩ := g
  obtain ⟨hS, hfc, kC, hkC, hkind⟩ := hK.1 t ht
  obtain ⟨cf, kf, fi, f, hi, hsl⟩ := hS k hk
  refine W.getf hx hb hown (hts _ hl) hi (u_facts hfc hkC (u_lays hts (zu_in t ht) hk) hi).1 q1 (by rw [q3]; exact fun h => by cases h) (v := zval (zty t k) M a k) ?_ rfl rfl hdg kk
  rw [hsl]
  exact q4 k hk
theorem z_apart (hts : ∀ w ∈ zU, w.before args s = true) (hK : zKn D cA s) {t : Nat} (ht : t < 8) : ∀ x y, x < zNf t → y < zNf t → x ≠ y → (D.2 t) x ≠ (D.2 t) y := by
  intro x y hx hy hne
  obtain ⟨hS, -⟩ := hK.1 t ht
  obtain ⟨_, _, _, fa, hia, ea⟩ := hS x hx
  obtain ⟨_, _, _, fb, hib, eb⟩ := hS y hy
  rw [← ea, ← eb]
  refine u_apart (u_lays hts (zu_in t ht) hx) (u_lays hts (zu_in t ht) hy) hia hib ?_
  rw [(State.fieldFound?_type hia (zty_ok t ht x hx)).1, (State.fieldFound?_type hib (zty_ok t ht y hy)).1]
  exact znm_ok t ht x hx y hy hne
theorem z_put (hx : p.tables.exec = Jvm.exec) (hb : c.code = cc) (hts : ∀ w ∈ zU, w.before args s = true) (hown : s.vm.findClass own = some m.cls) (hK : zKn D cA s) (hW : zWd D cA b0 M H) (hS0 : va_S (fun q => b0 ≤ q) H0 H locs) {a t k index : Nat} (ha : zK M a = some (t, 0)) (ht : t < 8) (hk : k < zNf t) (hl : Cond.fieldLink own index (zT t k).1 (zT t k).2.1 (zT t k).2.2.1 ∈ zU)
    (hfin : (zT t k).2.2.2 = false ∨ (meth.name = "<init>" ∧ (zT t k).1 = own)) {v : zV} {ps : List Prop} {M' : zM} (hput : zfput M (ztk (zty t k)) a k v = some (ps, M')) (hps : zall ps) (hdg : decode cc pc = .ok (.putfield index, 3))
    (kk : ∀ (H1 : Heap) (locs1 : List Loc), zWd D cA b0 M' H1 → va_S (fun q => b0 ≤ q) H0 H1 locs1 → W p l e R s m args below meth c H1 locs1 cells slots Q (F0 m (pc + 3) ls rest)) : W p l e R s m args below meth c H locs cells slots Q (F0 m pc ls (zv v :: .ref a :: rest)) := by
  obtain ⟨o1, o2, o3, o4, o5, o6, o7, o8, o9⟩ := zfput_ok hput hps
  have g1 := hW.own ha
  have g := (hW.2.1 a t 0 ha).2
  have g0 := g
  unfold zat at g
  rw [if_pos ht] at g
  obtain ⟨cell, q1, q2, q3, q4⟩ := g
  have hap := z_apart hts hK ht
  obtain ⟨hS, hfc, kC, hkC, hkind⟩ := hK.1 t ht
  obtain ⟨cf, kf, fi, f, hi, hsl⟩ := hS k hk
  have hlay := hts _ (zu_in t ht _ (u_in_lay hk))
  have hst := (u_facts hfc hkC (u_lays hts (zu_in t ht) hk) hi).1
  have fin : ∀ (H1 : Heap), H1[a]? = some (cell.setSlot f.slot (zv v)) → H1.size = H.size → (∀ q : Nat, q ≠ a → H1[q]? = H[q]?) → W p l e R s m args below meth c H1 (locs ++ [⟨a, f.slot⟩]) cells slots Q (F0 m (pc + 3) ls rest) := by
    intro H1 e1 e2 e3
    refine kk H1 _ (hW.set ha e2 e3 o1 o2 o3 o4 o5 ?_) (hS0.put e2 e3 g1)
    unfold zat
    rw [if_pos ht]
    refine t_OB.to (V := updV (fun j => zval (zty t j) M a j) k (zv v)) ⟨cell.setSlot (D.2 t k) (zv v), by rw [← hsl]; exact e1, q2, q3, t_set q4 hap hk (zv v)⟩ (fun j hj => ?_)
    by_cases ej : j = k
    · subst ej
      simp only [updV, if_true]
      exact o7.symm
    · simp only [updV, if_neg ej]
      obtain ⟨z1, z2, z3⟩ := o6 j ej
      cases hty : zty t j <;> simp only [zval, z1, z2, z3]
  by_cases hf : (zT t k).2.2.2 = true
  · rcases hfin with h | ⟨hin2, hdecl⟩
    · rw [h] at hf
      cases hf
    · unfold u_lay at hlay
      rw [if_pos hf] at hlay
      have hcf : m.cls = cf := by
        obtain ⟨_, _, c', _, _, _, -, -, hf', -, -, -, hown2, -⟩ := Cond.laysFinal_spec hlay
        have e1 : c' = cf := by have := hi.symm.trans hf'; simp at this; exact this.1.symm
        rw [hdecl] at hown2
        rw [← e1]; exact Option.some.inj (hown.symm.trans hown2)
      have h6 := u_fits hfc hkC hkind (Or.inr hlay) hi (zty_ok t ht k hk) o8 o9
      exact W.putFinK hx hb hown (hts _ hl) hi hst hcf hin2 (by rw [q2]; exact h6) q1 q3 (by rw [hsl]; exact k2_hasslot (q4 k hk)) rfl rfl hdg fin
  · have hff : (zT t k).2.2.2 = false := by
      cases h : (zT t k).2.2.2
      · rfl
      · exact absurd h hf
    unfold u_lay at hlay
    rw [if_neg hf] at hlay
    have h6 := u_store hfc hkC hkind hlay hi (zty_ok t ht k hk) o8 o9
    exact W.putK hx hb (f := f) ⟨hown, hts _ hl, ⟨_, _, _, hi⟩, hst⟩ (by rw [q2]; exact h6) q1 q3 (by rw [hsl]; exact k2_hasslot (q4 k hk)) rfl rfl hdg fin
theorem z_arr (hW : zWd D cA b0 M H) {a t n : Nat} (ha : zK M a = some (20 + t, n)) (ht : t < 10 := by omega) : H[a]? = some (arrV (cA t) n (fun k => zval (zel t) M a k)) := by
  have g := (hW.2.1 a _ n ha).2
  unfold zat at g
  rw [if_neg (by omega), if_neg (by omega), show 20 + t - 20 = t by omega] at g
  exact g
theorem z_arrW (hW : zWd D cA b0 M H) {a t n : Nat} (ha : zK M a = some (20 + t, n)) {H1 : Heap} {M' : zM} (hz : H1.size = H.size) (ho : ∀ q : Nat, q ≠ a → H1[q]? = H[q]?) (hK : zK M' = zK M) (hN : zN M' = zN M) (hI : ∀ b, b ≠ a → ∀ k, zI M' b k = zI M b k) (hL : ∀ b, b ≠ a → ∀ k, zL M' b k = zL M b k) (hP : ∀ b, b ≠ a → ∀ k, zP M' b k = zP M b k) (hat : H1[a]? = some (arrV (cA t) n (fun k => zval (zel t) M' a k))) (ht : t < 10 := by omega) : zWd D cA b0 M' H1 := by
  refine hW.set ha hz ho hK hN hI hL hP ?_
  unfold zat
  rw [if_neg (by omega), if_neg (by omega), show 20 + t - 20 = t by omega]
  exact hat
theorem z_ald (hx : p.tables.exec = Jvm.exec) (hb : c.code = cc) (hK : zKn D cA s) (hW : zWd D cA b0 M H) {a t n : Nat} (ha : zK M a = some (20 + t, n)) {i : Int32} (hin : vp_in i n) (ht : t < 10) {ins : Instr} (hi : (t = 0 ∧ ins = .iaload) ∨ (t = 1 ∧ ins = .laload) ∨ (t = 2 ∧ ins = .baload) ∨ (t = 3 ∧ ins = .caload) ∨ (5 ≤ t ∧ ins = .aaload)) (hdg : decode cc pc = .ok (ins, 1))
    (kk : W p l e R s m args below meth c H locs cells slots Q (F0 m (pc + 1) ls (zval (zel t) M a i.toNatClampNeg :: rest))) : W p l e R s m args below meth c H locs cells slots Q (F0 m pc ls (.int i :: .ref a :: rest)) := by
  have hc := z_arr hW ha ht
  have hlt : i.toNatClampNeg < n := Nat.not_le.mp fun q => hin (Or.inr q)
  have hA := (hK.2.1 t ht).1 n (fun k => zval (zel t) M a k)
  have hv : (arrV (cA t) n (fun k => zval (zel t) M a k)).slots[i.toNatClampNeg]? = some (zval (zel t) M a i.toNatClampNeg) := arrV_read _ _ hlt
  have hin2 : ¬ (i < 0 ∨ (arrV (cA t) n (fun k => zval (zel t) M a k)).slots.size ≤ i.toNatClampNeg) := by rw [arrV_size]; exact hin
  rcases hi with ⟨rfl, rfl⟩ | ⟨rfl, rfl⟩ | ⟨rfl, rfl⟩ | ⟨rfl, rfl⟩ | ⟨h5, rfl⟩
  · exact W.iald hx hb hc hA (fun q => by cases q) hin2 hv rfl rfl hdg kk
  · exact W.lald hx hb hc hA (fun q => by cases q) hin2 hv rfl rfl hdg kk
  · exact W.zald hx hb hc hA (fun q => by cases q) hin2 hv rfl rfl hdg kk
  · exact W.cald hx hb hc hA (fun q => by cases q) hin2 hv rfl rfl hdg kk
  · refine W.aald hx hb hc hA ?_ (fun q => by cases q) hin2 hv rfl rfl hdg kk
    rcases (show t = 5 ∨ t = 6 ∨ t = 7 ∨ t = 8 ∨ t = 9 by omega) with rfl | rfl | rfl | rfl | rfl <;> rfl
theorem z_iast (hx : p.tables.exec = Jvm.exec) (hb : c.code = cc) (hK : zKn D cA s) (hW : zWd D cA b0 M H) (hS0 : va_S (fun q => b0 ≤ q) H0 H locs) {a t n : Nat} (ha : zK M a = some (20 + t, n)) {i x : Int32} (hin : vp_in i n) {ins : Instr} (hi : (t = 0 ∧ ins = .iastore) ∨ (t = 2 ∧ ins = .bastore ∧ z01 x) ∨ (t = 3 ∧ ins = .castore ∧ zch x)) (hdg : decode cc pc = .ok (ins, 1))
    (kk : ∀ (H1 : Heap) (locs1 : List Loc), zWd D cA b0 (zwI M a i.toNatClampNeg x) H1 → va_S (fun q => b0 ≤ q) H0 H1 locs1 → W p l e R s m args below meth c H1 locs1 cells slots Q (F0 m (pc + 1) ls rest)) : W p l e R s m args below meth c H locs cells slots Q (F0 m pc ls (.int x :: .int i :: .ref a :: rest)) := by
  have ht10 : t < 10 := by rcases hi with ⟨rfl, -⟩ | ⟨rfl, -⟩ | ⟨rfl, -⟩ <;> decide
  have hc := z_arr hW ha
  have hin2 : ¬ (i < 0 ∨ (arrV (cA t) n (fun k => zval (zel t) M a k)).slots.size ≤ i.toNatClampNeg) := by rw [arrV_size]; exact hin
  have hA := fun ht => (hK.2.1 t ht).1 n (fun k => zval (zel t) M a k)
  have fin : (∀ j, zval (zel t) (zwI M a i.toNatClampNeg x) a j = updV (fun j => zval (zel t) M a j) i.toNatClampNeg (.int x) j) → ∀ (H1 : Heap), H1[a]? = some ((arrV (cA t) n (fun k => zval (zel t) M a k)).setSlot i.toNatClampNeg (.int x)) → H1.size = H.size → (∀ q : Nat, q ≠ a → H1[q]? = H[q]?) → W p l e R s m args below meth c H1 (locs ++ [⟨a, i.toNatClampNeg⟩]) cells slots Q (F0 m (pc + 1) ls rest) := by
    intro hz H1 e1 e2 e3
    refine kk H1 _ (z_arrW hW ha e2 e3 rfl rfl (fun b hb k => by simp [zI, zwI, hb]) (fun b hb k => rfl) (fun b hb k => rfl) ?_) (hS0.put e2 e3 (hW.own ha))
    rw [e1, arrV_store]
    congr 2
    funext j
    exact (hz j).symm
  rcases hi with ⟨rfl, rfl⟩ | ⟨rfl, rfl, h1⟩ | ⟨rfl, rfl, h1⟩
  · exact W.iast hx hb hc (hA (by decide)) (fun q => by cases q) hin2 rfl rfl hdg (fin (zval_wI rfl))
  · refine W.zast hx hb hc (hA (by decide)) (fun q => by cases q) hin2 rfl rfl hdg ?_
    rw [(z01_nar h1).1]
    exact fin (zval_wI rfl)
  · refine W.cast hx hb hc (hA (by decide)) (fun q => by cases q) hin2 rfl rfl hdg ?_
    rw [(zch_nar h1).1]
    exact fin (zval_wI rfl)
theorem z_last (hx : p.tables.exec = Jvm.exec) (hb : c.code = cc) (hK : zKn D cA s) (hW : zWd D cA b0 M H) (hS0 : va_S (fun q => b0 ≤ q) H0 H locs) {a n : Nat} (ha : zK M a = some (21, n)) {i : Int32} {x : Int64} (hin : vp_in i n) (hdg : decode cc pc = .ok (.lastore, 1))
    (kk : ∀ (H1 : Heap) (locs1 : List Loc), zWd D cA b0 (zwL M a i.toNatClampNeg x) H1 → va_S (fun q => b0 ≤ q) H0 H1 locs1 → W p l e R s m args below meth c H1 locs1 cells slots Q (F0 m (pc + 1) ls rest)) : W p l e R s m args below meth c H locs cells slots Q (F0 m pc ls (.long x :: .int i :: .ref a :: rest)) := by
  have hc := z_arr (t := 1) hW ha
  refine W.last hx hb hc ((hK.2.1 1 (by decide)).1 n _) (fun q => by cases q) (by rw [arrV_size]; exact hin) rfl rfl hdg fun H1 e1 e2 e3 => ?_
  refine kk H1 _ (z_arrW (t := 1) hW ha e2 e3 rfl rfl (fun b hb k => rfl) (fun b hb k => by simp [zL, zwL, hb]) (fun b hb k => rfl) ?_) (hS0.put e2 e3 (hW.own ha))
  rw [e1, arrV_store]
  congr 2
  funext j
  exact (zval_wL j).symm
theorem z_aast (hx : p.tables.exec = Jvm.exec) (hb : c.code = cc) (hK : zKn D cA s) (hW : zWd D cA b0 M H) (hS0 : va_S (fun q => b0 ≤ q) H0 H locs) {a n v t : Nat} (ht : t = 2) (ha : zK M a = some (25 + t, n)) (hv : zK M v = some (t, 0)) {i : Int32} (hin : vp_in i n) (hdg : decode cc pc = .ok (.aastore, 1))
    (kk : ∀ (H1 : Heap) (locs1 : List Loc), zWd D cA b0 (zwP M a i.toNatClampNeg (some v)) H1 → va_S (fun q => b0 ≤ q) H0 H1 locs1 → W p l e R s m args below meth c H1 locs1 cells slots Q (F0 m (pc + 1) ls rest)) : W p l e R s m args below meth c H locs cells slots Q (F0 m pc ls (.ref v :: .int i :: .ref a :: rest)) := by
  have ha' : zK M a = some (20 + (5 + t), n) := by rw [ha]; congr 2; omega
  have hc := z_arr hW ha'
  have hlt : i.toNatClampNeg < n := Nat.not_le.mp fun q => hin (Or.inr q)
  have h0 : ¬ i < 0 := fun q => hin (Or.inl q)
  have g := (hW.2.1 v t 0 hv).2
  unfold zat at g
  rw [if_pos (by omega)] at g
  obtain ⟨cellV, g1, g2, g3, -⟩ := g
  have hcls := (hK.1 t (by omega)).2
  have hel : zel (5 + t) = .object (zR t) := by subst ht; rfl
  have hRA := (hK.2.1 (5 + t) (by omega)).2
  rw [hel] at hRA
  obtain ⟨kA, comp, k1, k2, k3, -⟩ := hRA
  have hcomp : comp = D.1 t := Option.some.inj (k3.symm.trans hcls.1)
  subst hcomp
  obtain ⟨kC, hkC, -⟩ := hcls.2
  refine W.aast hx hb hc (fun q h => by cases h) (fun h => by cases h) k1 k2 rfl hkC ⟨h0, by rw [arrV_size]; exact hlt⟩ g1 (fun q h => by rw [g3] at h; cases h) (by rw [g2]; exact hkC) (by rw [g2]; exact va_assign hcls) rfl rfl hdg fun H1 e1 e2 e3 => ?_
  refine kk H1 _ (z_arrW hW ha' e2 e3 rfl rfl (fun b hb k => rfl) (fun b hb k => rfl) (fun b hb k => by simp [zP, zwP, hb]) ?_) (hS0.put e2 e3 (hW.own ha))
  rw [e1, arrV_store]
  congr 2
  funext j
  rw [hel]
  by_cases ej : j = i.toNatClampNeg <;> simp [updV, zval, zP, zwP, ej, va_rf]
theorem z_alen (hx : p.tables.exec = Jvm.exec) (hb : c.code = cc) (hK : zKn D cA s) (hW : zWd D cA b0 M H) {a t n : Nat} (ht : t < 10) (ha : zK M a = some (20 + t, n)) (hdg : decode cc pc = .ok (.arraylength, 1))
    (kk : W p l e R s m args below meth c H locs cells slots Q (F0 m (pc + 1) ls (.int (nI n) :: rest))) : W p l e R s m args below meth c H locs cells slots Q (F0 m pc ls (.ref a :: rest)) :=
  W.alen (n := nI n) hx hb (z_arr hW ha) ((hK.2.1 t ht).1 n _) (by rw [arrV_size]; rfl) rfl rfl hdg kk
theorem z_sld (hx : p.tables.exec = Jvm.exec) (hb : c.code = cc) (hK : zKn D cA s) (hW : zWd D cA b0 M H) {a n : Nat} (ha : zK M a = some (30, n)) {i : Int32} (hin : vp_in i n) (hdg : decode cc pc = .ok (.iaload, 1))
    (kk : W p l e R s m args below meth c H locs cells slots Q (F0 m (pc + 1) ls (.int (zI M a i.toNatClampNeg) :: rest))) : W p l e R s m args below meth c H locs cells slots Q (F0 m pc ls (.int i :: .ref a :: rest)) := by
  have g := (hW.2.1 a _ n ha).2
  unfold zat at g
  rw [if_neg (by decide), if_pos rfl] at g
  obtain ⟨scr, q1, q2, q3, q4, q5, q6⟩ := g
  have hlt : i.toNatClampNeg < n := Nat.not_le.mp fun q => hin (Or.inr q)
  exact W.iald hx hb q1 ⟨q3, by rw [q2]; exact hK.2.2.1⟩ q4 (by rw [q5]; exact hin) (q6 _ hlt) rfl rfl hdg kk
theorem z_slen (hx : p.tables.exec = Jvm.exec) (hb : c.code = cc) (hK : zKn D cA s) (hW : zWd D cA b0 M H) {a n : Nat} (ha : zK M a = some (30, n)) (hdg : decode cc pc = .ok (.arraylength, 1))
    (kk : W p l e R s m args below meth c H locs cells slots Q (F0 m (pc + 1) ls (.int (nI n) :: rest))) : W p l e R s m args below meth c H locs cells slots Q (F0 m pc ls (.ref a :: rest)) := by
  have g := (hW.2.1 a _ n ha).2
  unfold zat at g
  rw [if_neg (by decide), if_pos rfl] at g
  obtain ⟨scr, q1, q2, q3, q4, q5, q6⟩ := g
  exact W.alen (n := nI n) hx hb q1 ⟨q3, by rw [q2]; exact hK.2.2.1⟩ (by rw [q5]; rfl) rfl rfl hdg kk
end ZR
