/-! What the start gives: the classes, the words, the script. -/
def zgv : Jvm.Cond := Jvm.Cond.and given_1 narrow_1
def zgvE : Nat → Nat := fun i => (bif Nat.ble i 16 then (bif Nat.ble i 7 then (bif Nat.ble i 3 then (bif Nat.ble i 1 then (bif Nat.ble i 0 then 174 else 200) else (bif Nat.ble i 2 then 231 else 263)) else (bif Nat.ble i 5 then (bif Nat.ble i 4 then 298 else 406) else (bif Nat.ble i 6 then 370 else 406))) else (bif Nat.ble i 11 then (bif Nat.ble i 9 then (bif Nat.ble i 8 then 450 else 174) else (bif Nat.ble i 10 then 174 else 174)) else (bif Nat.ble i 13 then (bif Nat.ble i 12 then 174 else 174) else (bif Nat.ble i 14 then 174 else (bif Nat.ble i 15 then 174 else 174))))) else (bif Nat.ble i 24 then (bif Nat.ble i 20 then (bif Nat.ble i 18 then (bif Nat.ble i 17 then 174 else 174) else (bif Nat.ble i 19 then 174 else 174)) else (bif Nat.ble i 22 then (bif Nat.ble i 21 then 174 else 174) else (bif Nat.ble i 23 then 60 else 60))) else (bif Nat.ble i 28 then (bif Nat.ble i 26 then (bif Nat.ble i 25 then 174 else 174) else (bif Nat.ble i 27 then 174 else 335)) else (bif Nat.ble i 30 then (bif Nat.ble i 29 then 143 else 114) else (bif Nat.ble i 31 then 174 else (bif Nat.ble i 32 then 87 else 174))))))
def zgvS : Nat → Nat := fun i => (bif Nat.ble i 16 then (bif Nat.ble i 7 then (bif Nat.ble i 3 then (bif Nat.ble i 1 then (bif Nat.ble i 0 then 2202 else 2212) else (bif Nat.ble i 2 then 2229 else 3121)) else (bif Nat.ble i 5 then (bif Nat.ble i 4 then 3122 else 4067) else (bif Nat.ble i 6 then 4051 else 4067))) else (bif Nat.ble i 11 then (bif Nat.ble i 9 then (bif Nat.ble i 8 then 4131 else 2202) else (bif Nat.ble i 10 then 2202 else 2202)) else (bif Nat.ble i 13 then (bif Nat.ble i 12 then 2202 else 2202) else (bif Nat.ble i 14 then 2202 else (bif Nat.ble i 15 then 2202 else 2202))))) else (bif Nat.ble i 24 then (bif Nat.ble i 20 then (bif Nat.ble i 18 then (bif Nat.ble i 17 then 2202 else 2202) else (bif Nat.ble i 19 then 2202 else 2202)) else (bif Nat.ble i 22 then (bif Nat.ble i 21 then 2202 else 2202) else (bif Nat.ble i 23 then 1181 else 1181))) else (bif Nat.ble i 28 then (bif Nat.ble i 26 then (bif Nat.ble i 25 then 2202 else 2202) else (bif Nat.ble i 27 then 2202 else 3163)) else (bif Nat.ble i 30 then (bif Nat.ble i 29 then 2201 else 2043) else (bif Nat.ble i 31 then 2202 else (bif Nat.ble i 32 then 2019 else 2202))))))
def zgvN : Nat → Nat := fun i => (bif Nat.ble i 11 then (bif Nat.ble i 5 then (bif Nat.ble i 2 then (bif Nat.ble i 0 then 0 else (bif Nat.ble i 1 then 20 else 31)) else (bif Nat.ble i 3 then 42 else (bif Nat.ble i 4 then 52 else 13))) else (bif Nat.ble i 8 then (bif Nat.ble i 6 then 0 else (bif Nat.ble i 7 then 35 else 47)) else (bif Nat.ble i 9 then 57 else (bif Nat.ble i 10 then 9 else 21)))) else (bif Nat.ble i 17 then (bif Nat.ble i 14 then (bif Nat.ble i 12 then 0 else (bif Nat.ble i 13 then 43 else 53)) else (bif Nat.ble i 15 then 15 else (bif Nat.ble i 16 then 26 else 37))) else (bif Nat.ble i 20 then (bif Nat.ble i 18 then 0 else (bif Nat.ble i 19 then 59 else 16)) else (bif Nat.ble i 22 then (bif Nat.ble i 21 then 27 else 38) else (bif Nat.ble i 23 then 48 else 0)))))
theorem zgv_str : (List.range' 0 34).all (fun i => decide ((flatC zgv)[zgvE i]? = some (.exactly (.string (zown (zthm i).1) (zthr i).2.2.1) "java/lang/String")) && decide (zlk (zgvS i) = some (.stringRef (zown (zthm i).1) (zthr i).2.2.1 (ztxt i)))) = true := by decide +kernel
theorem zgv_not : (List.range' 0 25).all (fun i => Nat.beq (i / 5) (i % 5) || decide ((flatC zgv)[zgvN i]? = some (.not (.castable (zexn (i / 5)) (zexn (i % 5)))))) = true := by decide +kernel
theorem zgv_sta : (flatC zgv)[4]? = some (.isRef (.static Bundle.tN "UNASSIGNED_STACK" Bundle.steD)) ∧ (flatC zgv)[5]? = some (.isRef (.static Bundle.tN "SUPPRESSED_SENTINEL" Bundle.listD)) := ⟨by decide +kernel, by decide +kernel⟩
theorem z_over {args : Array Value} {s : State} {t : FieldType} (h : (Cond.arrayOver (.array t)).before args s = true) : ∃ comp c k, s.vm.findClass (FieldType.array t).toString = some comp ∧ s.vm.classes[c]? = some k ∧ k.kind = .array comp (.array t) ∧ s.vm.findClass ("[" ++ (FieldType.array t).toString) = some c := by
  simp only [Cond.before, Cond.holds, Cond.value, beq_iff_eq] at h
  cases hc : s.vm.findClass (FieldType.array t).toString with
  | none => simp [hc] at h
  | some comp =>
    simp only [hc, Option.bind_some, Option.bind_eq_some_iff, Option.map_eq_some_iff] at h
    obtain ⟨c, hi, k, hk, hb⟩ := h
    obtain ⟨hlt, hp, -⟩ := Array.findIdx?_eq_some_iff_getElem.mp hi
    have hkk : s.vm.classes[c] = k := (Array.getElem?_eq_some_iff.mp hk).2
    rw [hkk] at hp
    cases hkind : k.kind with
    | array component ty =>
      rw [hkind] at hb hp
      simp at hb hp
      exact ⟨comp, c, k, rfl, hk, by rw [hkind, hp, hb.1], hb.2⟩
    | _ => rw [hkind] at hb; simp at hb
theorem z_exact {args : Array Value} {s : State} {t : Term} {cls : String} (h : (Cond.exactly t cls).before args s = true) : ∃ a, t.eval args s none [] s = some (.ref a) := by
  simp only [Cond.before, Cond.holds, Cond.value] at h
  split at h
  · rename_i a c h1 h2
    exact ⟨a, h1⟩
  · cases h
  · cases h
theorem zArr {args : Array Value} {s : State} (hts : ∀ w ∈ lw_tbl, w.before args s = true) {c10 : ClassId} (h10 : ∃ k, s.vm.classes[c10]? = some k ∧ ∃ comp, k.kind = .array comp .int) : ∃ cA : Nat → ClassId, cA 10 = c10 ∧ (∀ j, j < 10 → ArrOfT s (cA j) (zel j) ∧ va_RA s (cA j) (zel j)) ∧ (∃ k, s.vm.classes[cA 10]? = some k ∧ ∃ comp, k.kind = .array comp .int) ∧ zNs cA s 5 0 := by
  obtain ⟨c0, k0, p0, a0, b0, d0⟩ := Cond.arrayClass_spec (hts (.arrayClass .int) (zlk_in (i := 1066) (by decide +kernel)))
  obtain ⟨c1, k1, p1, a1, b1, d1⟩ := Cond.arrayClass_spec (hts (.arrayClass .long) (zlk_in (i := 1094) (by decide +kernel)))
  obtain ⟨c2, k2, p2, a2, b2, d2⟩ := Cond.arrayClass_spec (hts (.arrayClass .boolean) (zlk_in (i := 3061) (by decide +kernel)))
  obtain ⟨c3, k3, p3, a3, b3, d3⟩ := Cond.arrayClass_spec (hts (.arrayClass .char) (zlk_in (i := 1067) (by decide +kernel)))
  obtain ⟨p5, c5, k5, e5, b5, d5, a5⟩ := z_over (hts (.arrayOver (.array .int)) (zlk_in (i := 3028) (by decide +kernel)))
  obtain ⟨p7, c7, k7, e7, i7, b7, d7, a7⟩ := Cond.arrayOver_spec (hts (.arrayOver (.object "TurnFace$Puzzle")) (zlk_in (i := 1031) (by decide +kernel)))
  obtain ⟨p8, c8, k8, e8, i8, b8, d8, a8⟩ := Cond.arrayOver_spec (hts (.arrayOver (.object "TurnFace$Round")) (zlk_in (i := 1096) (by decide +kernel)))
  have s5 : (FieldType.array FieldType.int).toString = ("[" ++ FieldType.int.toString) := rfl
  have q5 : p5 = c0 := by rw [s5] at e5; exact Option.some.inj (e5.symm.trans a0)
  subst q5
  refine ⟨fun j => match j with | 0 => p5 | 1 => c1 | 2 => c2 | 3 => c3 | 4 => p5 | 5 => c5 | 6 => c5 | 7 => c7 | 8 => c8 | 9 => c5 | _ => c10, rfl, fun j hj => ?_, h10, ⟨k5, b5, d5⟩⟩
  rcases (show j = 0 ∨ j = 1 ∨ j = 2 ∨ j = 3 ∨ j = 4 ∨ j = 5 ∨ j = 6 ∨ j = 7 ∨ j = 8 ∨ j = 9 by omega) with rfl | rfl | rfl | rfl | rfl | rfl | rfl | rfl | rfl | rfl
  · exact ⟨fun n z => ⟨fun k h => (by cases h), k0, b0, p0, d0⟩, a0⟩
  · exact ⟨fun n z => ⟨fun k h => (by cases h), k1, b1, p1, d1⟩, a1⟩
  · exact ⟨fun n z => ⟨fun k h => (by cases h), k2, b2, p2, d2⟩, a2⟩
  · exact ⟨fun n z => ⟨fun k h => (by cases h), k3, b3, p3, d3⟩, a3⟩
  · exact ⟨fun n z => ⟨fun k h => (by cases h), k0, b0, p0, d0⟩, a0⟩
  · exact ⟨fun n z => ⟨fun k h => (by cases h), k5, b5, p5, d5⟩, a5⟩
  · exact ⟨fun n z => ⟨fun k h => (by cases h), k5, b5, p5, d5⟩, a5⟩
  · exact ⟨fun n z => ⟨fun k h => (by cases h), k7, b7, p7, d7⟩, ⟨k7, p7, b7, d7, e7, a7⟩⟩
  · exact ⟨fun n z => ⟨fun k h => (by cases h), k8, b8, p8, d8⟩, ⟨k8, p8, b8, d8, e8, a8⟩⟩
  · exact ⟨fun n z => ⟨fun k h => (by cases h), k5, b5, p5, d5⟩, a5⟩
theorem zU_of {args : Array Value} {s : State} (hts : ∀ w ∈ lw_tbl, w.before args s = true) : ∀ w ∈ zU, w.before args s = true := fun w hw => hts w (List.mem_filter.mp hw).1
theorem zCls {args : Array Value} {s : State} (hts : ∀ w ∈ lw_tbl, w.before args s = true) : ∃ D : va_G, ∀ t, t < 8 → u_Kn s (zR t) (zT t) (zNf t) (D.1 t) (D.2 t) := by
  have h : ∀ t, ∃ q : ClassId × (Nat → Nat), t < 8 → u_Kn s (zR t) (zT t) (zNf t) q.1 q.2 := by
    intro t
    by_cases ht : t < 8
    · obtain ⟨cC, iS, hk⟩ := u_known (zU_of hts) (zu_in t ht) (zU_of hts _ (zin_ok ht).1)
      exact ⟨(cC, iS), fun _ => hk⟩
    · exact ⟨(0, fun _ => 0), fun q => absurd q ht⟩
  exact ⟨(fun t => (Classical.choose (h t)).1, fun t => (Classical.choose (h t)).2), fun t ht => Classical.choose_spec (h t) ht⟩
/-- the memory at the law's start: the script alone -/
def zM0 (b L N : Nat) (xs : Nat → Int32) : zM := (fun a k => if a = b then xs k else 0, fun _ _ => 0, fun _ _ => none, fun a => if a = b then some (30, L) else none, N)
theorem z_law {p : Program} {e : Env} {s : State} {m : MethodId} {below : List Frame} {meth : Method} {c : Code} (l : Launch) (hflags : l.flags = flags0) {b L : Nat} {xs : Nat → Int32} (C0 : lw_At p s m meth c b L xs)
    (hrun : ∀ N, b < N → zS 298 2048 [zr (some b)] (zM0 b L N xs) (fun o _ => o = .inl (some (zi 1)))) : W p l e room_1 s m #[Value.ref b] below meth c s.heap [] 0 0 (lw_Z below #[Value.ref b] s) (entryFrame m ([Value.ref b] : List Value).toArray 19) := by
  obtain ⟨hx, hb, hr, hml, hown, hts, ⟨scr, x1, x2, x3, x4, x5⟩, hbl, hlocks, hgv⟩ := C0
  have hl : l.stackTraces = false := by
    unfold Launch.stackTraces
    rw [hflags]
    decide
  have hfl := flat_of_before _ hgv
  have hsta : ∀ {i : Nat} {w : Cond}, (flatC zgv)[i]? = some w → w.before #[Value.ref b] s = true := fun h => hfl _ (List.mem_of_getElem? h)
  obtain ⟨cA, hc10, hA1, hA2⟩ := zArr hts (c10 := scr.cls) x2.2
  obtain ⟨D, hD⟩ := zCls hts
  have hK : zKn D cA s := ⟨hD, hA1, hA2⟩
  have hU := zU_of hts
  have hXw : ∀ w ∈ zXw, w ∈ lw_tbl := by
    intro w hw
    rw [zXw_in] at hw
    obtain ⟨i, -, hi⟩ := List.mem_filterMap.mp hw
    exact zlk_in hi
  have hE : zEv D cA s := by
    refine ⟨hK, fun w hw => ?_, ⟨va_AO.of (hts _ (zlk_in (i := 1031) (by decide +kernel))), va_AO.of (hts _ (zlk_in (i := 1096) (by decide +kernel)))⟩, fun i hi => ?_, fun x y hx hy hxy => ?_⟩
    · have h1 := hts w (hXw w hw)
      rcases zXw_kind w hw with ⟨x, rfl⟩ | ⟨C, T, rfl⟩
      · exact va_Nw.of rfl h1
      · exact va_Nw.of rfl h1
    · have h1 := zall_in zgv_str (y := i) (by omega) (by omega)
      simp only [Bool.and_eq_true, decide_eq_true_eq] at h1
      obtain ⟨a, ha⟩ := z_exact (hsta h1.1)
      exact ⟨a, vk_R.of (hts _ (zlk_in h1.2)) ha⟩
    · have h1 := zall_in zgv_not (y := 5 * x + y) (by omega) (by omega)
      have e1 : (5 * x + y) / 5 = x := by omega
      have e2 : (5 * x + y) % 5 = y := by omega
      simp only [e1, e2, Bool.or_eq_true, decide_eq_true_eq] at h1
      rcases h1 with h1 | h1
      · exact absurd (Nat.eq_of_beq_eq_true h1) hxy
      · exact va_Nc.of (hsta h1)
  have hSt : zSt s.heap.size s s.heap := by
    have hini := hts (.initialized Bundle.tN) (zlk_in (i := 1004) (by decide +kernel))
    exact ⟨vx_Zqof (hts _ (zlk_in (i := 1164) (by decide +kernel))) hini (hsta zgv_sta.1) (fun a h1 h2 => by omega), vx_Zqof (hts _ (zlk_in (i := 1166) (by decide +kernel))) hini (hsta zgv_sta.2) (fun a h1 h2 => by omega)⟩
  have hW : zWd D cA s.heap.size (zM0 b L s.heap.size xs) s.heap := by
    refine ⟨rfl, fun a t n ha => ?_, fun a ha => ?_⟩
    · have ha' : (if a = b then some (30, L) else none) = some (t, n) := ha
      by_cases e1 : a = b
      · subst e1
        rw [if_pos rfl] at ha'
        cases ha'
        refine ⟨Or.inl rfl, ?_⟩
        unfold zat
        rw [if_neg (by decide), if_pos rfl]
        refine ⟨scr, x1, hc10.symm, x2.1, x3, x4, fun j hj => ?_⟩
        rw [x5 j hj]
        simp [zI, zM0]
      · rw [if_neg e1] at ha'
        cases ha'
    · have ha' : s.heap.size ≤ a := ha
      have e1 : a ≠ b := by omega
      exact ⟨by simp [zK, zM0, e1], fun k => by simp [zI, zM0, e1], fun k => rfl, fun k => rfl⟩
  have hn : zW 298 2048 0 0 0 (zarg 19 [zr (some b)]) [] (zM0 b L s.heap.size xs) (fun o _ => o = .inl (some (zi 1))) := hrun s.heap.size hbl
  have hC : zCt p l room_1 s m #[Value.ref b] meth c D cA s.heap.size 298 2048 := by
    refine ⟨⟨hx, hb, hml, hown, hU, hK, fun h => ?_, by decide, by decide, by decide, by decide⟩, hE, hSt, Nat.le_refl _, by decide, hl, by decide, by decide, ?_, ?_⟩
    · exact absurd h (by decide)
    · show zrel _ _ _ (zhs 298) (zhh 298)
      exact trivial
    · exact fun h => absurd (show zhs 298 = [] from rfl) h
  have hR : zEndR p l e room_1 s m #[Value.ref b] below meth c (lw_Z below #[Value.ref b] s) D cA s.heap.size 298 (fun o _ => o = .inl (some (zi 1))) := by
    intro z pc L' H locs M st q v he hz hq hQ hW' hS'
    have hc := zchk_p 298 (by decide) pc z he
    obtain ⟨ins, nxt, aux, pos⟩ := z
    obtain ⟨hd, hn', ho⟩ := zfact hc
    have hQ' : v = some (zi 1) := Sum.inl.inj hQ
    subst hQ'
    have e3 : zret 298 = some .boolean := rfl
    rw [e3] at hz
    unfold zq at hz
    dsimp only at hz
    split at hz
    · rename_i e4
      cases e4
    · rename_i e4
      cases e4
    · simp only [Option.some.injEq, Prod.mk.injEq] at hz
      obtain ⟨rfl, hv⟩ := hz
      cases hv
      intro T hT X
      have X1 := Stand.forget (locs := []) X (fun y hy => hS'.2.2 y hy)
      exact W.base (lw_ret (d0 := s.drawn) (Drawn.sameBut.refl s.drawn lw_cs) hx hb hr hlocks hd) T hT X1
    · rename_i e4
      cases e4
    · rename_i e4
      cases e4
    · rename_i e4
      cases e4
    · rename_i e4
      cases e4
    · cases hz
  have hX : zEndX p l e room_1 s m #[Value.ref b] below meth c (lw_Z below #[Value.ref b] s) D cA s.heap.size 298 (fun o _ => o = .inl (some (zi 1))) := by
    intro x pc L' H locs M rest q ce hx6 hz hQ
    cases hQ
  have hG := z_good hn hC hR hX (Nat.zero_le _) (Nat.zero_le _)
  have hent : entryFrame m ([Value.ref b] : List Value).toArray 19 = F0 m 0 ((lg_sl ([zr (some b)].map zv) ++ List.replicate (19 - (lg_sl ([zr (some b)].map zv)).length) Slot.unset).toArray) [] := lg_entry_eq m ([zr (some b)].map zv) 19
  rw [hent]
  exact hG (zarg_len _ _) _ s.heap [] (zh_entry (as := [zr (some b)]) (n := 19) (show 1 ≤ 19 by decide)) hW va_S.rf (Nat.le_refl _)

