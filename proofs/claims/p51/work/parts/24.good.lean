/-! The induction. -/
theorem z_blind {D : va_G} {cA : Nat → ClassId} {b0 : Nat} {M : zM} {av : List Value} : FrameBlind (va_Pc av (zPre D cA b0 M)) := fun a U g mk h =>
  ⟨h.1, h.2.1, zEv.warm (State.WarmedH.refl U) h.2.2.1, zSt.warm (U := U.calling g mk a) (State.WarmedH.refl U) (fun _ _ _ => rfl) h.2.2.2.1, h.2.2.2.2⟩
section ZGC
variable {R : Room} {s : State} {args : Array Value} {D : va_G} {cA : Nat → ClassId} {b0 : Nat} {y y' d index : Nat} {H : Heap} {locs : List Loc} {M : zM}
theorem z_callB (hts : ∀ w ∈ zU, w.before args s = true) (hy' : y' < 298) (hd : 2 ≤ d) (hdR : d ≤ R.frames) (hlR : 46 * d ≤ R.locals) (hnil : zhh y' = []) (hlink : Cond.methodLink (zown y) index (zname y') ∈ zU) :
    CallB R s args (zown y) index (zname y') (zcode y') (zmaxL y') (zret y') (zword y' :: zU) { frames := d - 1, locals := 46 * (d - 1), cells := zmc y', slots := zms y' } (zmc y') (zms y') (zna y') := by
  obtain ⟨f1, f2, f3, f4, f5, f6, f7, -⟩ := zfM hy'
  have hwd : zword y' = Cond.code (zname y') (zcode y') (zmaxL y') (zret y') := by unfold zword; rw [hnil]
  refine ⟨rfl, rfl, by show d - 1 + 1 ≤ R.frames; omega, by show 8 + (zmaxL y' + 11) + 46 * (d - 1) ≤ R.locals; omega, pay_in hts (fun w hw => ?_), by rw [← hwd]; exact List.mem_cons_self, by rw [← hwd]; exact hts _ f1, by rw [f4]; exact hts _ f2, by rw [f4]; exact f5, fun sig h => ?_, hts _ hlink⟩
  · have hm : w ∈ zU := by
      rcases List.mem_cons.mp hw with rfl | h
      · exact f1
      · exact h
    exact ⟨hm, good_of_word (zU_good w hm)⟩
  · rw [h] at f6
    exact (Option.some.inj f6).symm
theorem z_callSW (hts : ∀ w ∈ zU, w.before args s = true) (hy' : y' < 298) (hk0 : zkd y' = 0) (hd : 2 ≤ d) (hdR : d ≤ R.frames) (hlR : 46 * d ≤ R.locals) (hne : zhh y' ≠ []) (hlink : Cond.methodLink (zown y) index (zname y') ∈ zU) :
    vx_CSW R s args (zown y) index (zname y') (zcode y') (zmaxL y') (zret y') (zhh y') (zword y' :: zU) { frames := d - 1, locals := 46 * (d - 1), cells := zmc y', slots := zms y' } (zmc y') (zms y') (zna y') := by
  obtain ⟨f1, f2, f3, f4, f5, f6, f7, f8, -⟩ := zfM hy'
  have hwd : zword y' = Cond.codeWith (zname y') (zcode y') (zmaxL y') (zret y') (zhh y') := by
    unfold zword
    cases h : zhh y' with
    | nil => exact absurd h hne
    | cons a t => rfl
  refine ⟨⟨rfl, rfl, by show d - 1 + 1 ≤ R.frames; omega, by show 8 + (zmaxL y' + 11) + 46 * (d - 1) ≤ R.locals; omega, pay_in hts (fun w hw => ?_), by rw [← hwd]; exact List.mem_cons_self⟩, by rw [← hwd]; exact hts _ f1, by rw [f4]; exact hts _ f2, by rw [f4]; exact f5, fun sig h => ?_, hts _ hlink, hts _ (f8 hk0)⟩
  · have hm : w ∈ zU := by
      rcases List.mem_cons.mp hw with rfl | h
      · exact f1
      · exact h
    exact ⟨hm, good_of_word (zU_good w hm)⟩
  · rw [h] at f6
    exact (Option.some.inj f6).symm
theorem z_pre (hE : zEv D cA s) (hSt : zSt b0 s s.heap) (hW : zWd D cA b0 M H) (hS : va_S (fun q => b0 ≤ q) s.heap H locs) (hb0 : b0 ≤ H.size) (av : List Value) : ∀ U : State, U.heap = H → s.WarmedH U.vm → va_Pc av (zPre D cA b0 M) av.toArray U := fun U hU hWm =>
  ⟨rfl, by rw [hU]; exact hW, hE.warm hWm, hSt.warm hWm (fun a h1 h2 => by rw [hU]; exact hS.2.1 a h1 h2), by rw [hU]; exact hb0⟩
theorem z_obj (hK : zKn D cA s) (hW : zWd D cA b0 M H) {a t : Nat} (ha : zK M a = some (t, 0)) (ht : t < 8) : ∃ cellB : Cell, H[a]? = some cellB ∧ cellB.vm.isStatics = false ∧ s.vm.findClass (zR t) = some cellB.cls := by
  have g := (hW.2.1 a t 0 ha).2
  unfold zat at g
  rw [if_pos ht] at g
  obtain ⟨cell, q1, q2, q3, -⟩ := g
  exact ⟨cell, q1, by rw [q3]; rfl, by rw [q2]; exact (hK.1 t ht).2.1⟩
end ZGC
set_option maxHeartbeats 1000000 in
theorem z_good {y0 d0 c0 s0 pc0 : Nat} {ls0 : zLs} {st0 : List zV} {M0 : zM} {Q0 : zO → zM → Prop} (h0 : zW y0 d0 c0 s0 pc0 ls0 st0 M0 Q0) : zSd y0 d0 c0 s0 pc0 ls0 st0 M0 Q0 := by
  refine h0 zSd ?_
  · intro y d cells slots pc ls st M Q h p l e R s m args below meth c QQ D cA b0 C hR hX hcc hss
    obtain ⟨hCx, hE, hSt, hbs, hy, htr, hdR, hlR, hrel, htab⟩ := id C
    obtain ⟨l1, h1, h2, z, h3, h⟩ := h
    obtain ⟨hxx, hb, hml, hown, hts, hK, hin, hR1, hR2, hR3, hR4⟩ := id hCx
    have hcs : cells ≤ R.cells ∧ slots ≤ R.slots := ⟨Nat.le_trans hcc hR3, Nat.le_trans hss hR4⟩
    suffices hh : zGo p l e R s m args below meth c QQ D cA b0 s.heap y cells slots pc l1 st M from fun hlen L H locs hl hW hS hb0 => hh (h1.1.trans hlen) L H locs (hl.less h1) hW hS hb0
    rcases h with ⟨ps, pc', ls', st', M', a1, a2, a3⟩ | ⟨q, t, f, st', a1, a2, a3⟩ | ⟨t, st', a1, a2⟩ | ⟨q, v, a1, a2, a3⟩ | ⟨y', as, st', ob, Q1, a1, a2, a3, a4, a5, a6, a7⟩ | ⟨ps, nxt, k, m0, N, st', M', a1, a2, a3, a4, a5⟩ | ⟨i, a1, a2, a3, a4, a5, a6, a7, a8⟩
    · exact zx_ok hy hCx h3 hcs a1 a2 (a3 C hR hX hcc hss)
    · exact zb_ok hy hCx h3 a1 (fun q => a2 q C hR hX hcc hss) (fun q => a3 q C hR hX hcc hss)
    · exact zsw_ok hy hCx h3 a1 (a2 C hR hX hcc hss)
    · intro hlen L H locs hl hW hS hb0
      exact z_widen hcc hss (hR z pc L H locs M st q v h3 a1 a2 a3 hW hS)
    · have hc := zchk_p y hy pc z h3
      obtain ⟨ins, nxt, aux, pos⟩ := z
      obtain ⟨hd, hn, ho⟩ := zfact hc
      have post : ∀ (o : zO) (M' : zM), nxt = pc + 3 → Q1 o M' → match o with
          | .inl v => zGo p l e R s m args below meth c QQ D cA b0 s.heap y (cells + zmc y') (slots + zms y') (pc + 3) l1 (v.toList ++ st') M'
          | .inr x => match zhand pc x (zhs y) with
            | some h => ∀ a, zGo p l e R s m args below meth c QQ D cA b0 s.heap y (cells + zmc y') (slots + zms y') h l1 [zr (some a)] M'
            | none => Q (.inr x) M' := by
        intro o M' hn hq
        have hq := a7 o M' hq
        cases o with
        | inl v =>
          dsimp only at hq ⊢
          rw [hn] at hq
          exact hq C hR hX a3 a4
        | inr x =>
          dsimp only at hq ⊢
          cases hz : zhand pc x (zhs y) with
          | none =>
            rw [hz] at hq
            exact hq
          | some h =>
            rw [hz] at hq
            exact fun a => hq a C hR hX a3 a4
      cases ins with
      | invokestatic i =>
        have hd : decode (zcode y) pc = .ok (.invokestatic i, 3) := hd
        have hn : nxt = pc + 3 := hn
        unfold zp at a1
        dsimp only at a1
        simp only [zchkO, Bool.and_eq_true, Bool.or_eq_true] at ho
        cases hq : Nat.ble 900 aux
        · rw [hq] at a1 ho
          simp only [cond_false] at a1 ho
          cases hk : Nat.beq (zkd aux) 0
          · rw [hk] at a1
            cases a1
          · rw [hk] at a1
            simp only [cond_true] at a1
            split at a1
            · rename_i as1 st1 htk
              cases hb8 : (Nat.ble (zsum st1) 8 && Nat.ble (zsum as1) (zmaxL aux))
              · rw [hb8] at a1
                cases a1
              · rw [hb8] at a1
                simp only [cond_true, Option.some.injEq, Prod.mk.injEq] at a1
                obtain ⟨rfl, rfl, rfl, rfl⟩ := a1
                rw [Bool.and_eq_true] at hb8
                have hs8 : zsum st1 ≤ 8 := Nat.le_of_ble_eq_true hb8.1
                have hfit : zsum as1 ≤ zmaxL aux := Nat.le_of_ble_eq_true hb8.2
                have hy' : aux < 298 := by
                  rcases ho.1.2 with h | h
                  · cases h
                  · exact Nat.le_of_ble_eq_true h.1
                have hk0 := Nat.eq_of_beq_eq_true hk
                obtain ⟨t1, t2⟩ := ztake_rev htk
                intro hlen L H locs hl hW hS hb0
                have hM := z_meet (D := D) (cA := cA) (b0 := b0) htr hy' (by omega) hfit a6
                have hlk := zwd_in ho.1.1
                have hstk : (F0 m pc L (st.map zv)).stack = (as1.map zv).reverse ++ st1.map zv := by
                  show st.map zv = _
                  rw [t2, List.map_append, List.map_reverse]
                by_cases hnil : zhh aux = []
                · have hr := vx_runS (g := F0 m pc L (st.map zv)) (H := H) (locs := locs) (cells := cells) (slots := slots) (e := e) (below := below) (meth := meth) ⟨hxx, hb, hml, hown, hts⟩ hM ⟨z_callB hts hy' a5 hdR hlR hnil hlk, hts _ ((zfM hy').2.2.2.2.2.2.2.1 hk0)⟩ ⟨z_blind, z_pre hE hSt hW hS hb0 _⟩ rfl (by rw [List.length_map]; exact t1) (by show L.size = _; rw [hl.1, hlen]) hstk (by show 2 * 0 + _ ≤ 8; rw [zsum_cat]; omega) hd ⟨by omega, by omega⟩
                  exact z_cont C hX a3 a4 hlen hl hS hb0 hr (fun o M' hq => post o M' hn hq)
                · have hr := vx_runSX (g := F0 m pc L (st.map zv)) (H := H) (locs := locs) (cells := cells) (slots := slots) (e := e) (below := below) (meth := meth) ⟨hxx, hb, hml, hown, hts⟩ hM (z_callSW hts hy' hk0 a5 hdR hlR hnil hlk) ⟨z_blind, z_pre hE hSt hW hS hb0 _⟩ rfl (by rw [List.length_map]; exact t1) (by show L.size = _; rw [hl.1, hlen]) hstk (by show 2 * 0 + _ ≤ 8; rw [zsum_cat]; omega) hd ⟨by omega, by omega⟩
                  exact z_cont C hX a3 a4 hlen hl hS hb0 hr (fun o M' hq => post o M' hn hq)
            · cases a1
        · rw [hq] at a1
          cases a1
      | invokevirtual i =>
        have hd : decode (zcode y) pc = .ok (.invokevirtual i, 3) := hd
        have hn : nxt = pc + 3 := hn
        unfold zp at a1
        dsimp only at a1
        simp only [zchkO, Bool.and_eq_true, Bool.or_eq_true] at ho
        cases hq : Nat.ble 900 aux
        · rw [hq] at a1 ho
          simp only [cond_false] at a1 ho
          cases hk : Nat.beq (zkd aux) 1
          · rw [hk] at a1
            cases a1
          · rw [hk] at a1
            simp only [cond_true] at a1
            split at a1
            · rename_i r as1 st1 htk
              cases hb8 : (Nat.ble (zsum st1) 8 && Nat.ble (zsum as1 + 1) (zmaxL aux))
              · rw [hb8] at a1
                cases a1
              · rw [hb8] at a1
                simp only [cond_true, Option.some.injEq, Prod.mk.injEq] at a1
                obtain ⟨rfl, rfl, rfl, rfl⟩ := a1
                obtain ⟨a, rfl, ha⟩ := a2 _ _ rfl
                rw [Bool.and_eq_true] at hb8
                have hs8 : zsum st1 ≤ 8 := Nat.le_of_ble_eq_true hb8.1
                have hfit : zsum (zr (some a) :: as1) ≤ zmaxL aux := Nat.le_of_ble_eq_true hb8.2
                have hy' : aux < 298 := Nat.le_of_ble_eq_true ho.2.1
                have hk1 := Nat.eq_of_beq_eq_true hk
                obtain ⟨g1, g2, g3, g4⟩ := (zfM hy').2.2.2.2.2.2.2.2.1 hk1
                have hnil := zhh_kd hy' (by rw [hk1]; decide)
                obtain ⟨t1, t2⟩ := ztake_rev htk
                intro hlen L H locs hl hW hS hb0
                have hM := z_meet (D := D) (cA := cA) (b0 := b0) htr hy' (by omega) hfit a6
                have hlk := zwd_in ho.1
                have hstk : (F0 m pc L (st.map zv)).stack = (as1.map zv).reverse ++ Value.ref a :: st1.map zv := by
                  show st.map zv = _
                  rw [t2]
                  simp [zv, va_rf]
                have hob := z_obj hK hW ha g3
                rw [g4] at hob
                have hr := vx_runV (C := zown aux) (b := a) (As := as1.map zv) (g := F0 m pc L (st.map zv)) (H := H) (locs := locs) (cells := cells) (slots := slots) (e := e) (below := below) (meth := meth) ⟨hxx, hb, hml, hown, hts⟩ hM ⟨z_callB hts hy' a5 hdR hlR hnil hlk, hts _ g1, hts _ g2⟩ ⟨z_blind, hob, z_pre hE hSt hW hS hb0 _⟩ rfl (by rw [List.length_map]; simpa using t1) (by show L.size = _; rw [hl.1, hlen]) hstk (by show 2 * 0 + _ ≤ 8; rw [zsum_cat]; omega) hd ⟨by omega, by omega⟩
                exact z_cont C hX a3 a4 hlen hl hS hb0 hr (fun o M' hq => post o M' hn hq)
            · cases a1
        · rw [hq] at a1
          cases a1
      | invokespecial i =>
        have hd : decode (zcode y) pc = .ok (.invokespecial i, 3) := hd
        have hn : nxt = pc + 3 := hn
        unfold zp at a1
        dsimp only at a1
        simp only [zchkO, Bool.and_eq_true, Bool.or_eq_true] at ho
        cases hq : Nat.ble 900 aux
        · rw [hq] at a1 ho
          simp only [cond_false] at a1 ho
          cases hk : Nat.beq (zkd aux) 2
          · rw [hk] at a1
            cases a1
          · rw [hk] at a1
            simp only [cond_true] at a1
            split at a1
            · rename_i r as1 st1 htk
              cases hb8 : (Nat.ble (zsum st1) 8 && Nat.ble (zsum as1 + 1) (zmaxL aux))
              · rw [hb8] at a1
                cases a1
              · rw [hb8] at a1
                simp only [cond_true, Option.some.injEq, Prod.mk.injEq] at a1
                obtain ⟨rfl, rfl, rfl, rfl⟩ := a1
                obtain ⟨a, rfl, ha⟩ := a2 _ _ rfl
                rw [Bool.and_eq_true] at hb8
                have hs8 : zsum st1 ≤ 8 := Nat.le_of_ble_eq_true hb8.1
                have hfit : zsum (zr (some a) :: as1) ≤ zmaxL aux := Nat.le_of_ble_eq_true hb8.2
                have ho2 : zwd pos (Cond.methodLink (zown y) i (zname aux)) = true ∧ aux < 298 := by
                  rcases ho with h | h
                  · rw [Nat.eq_of_beq_eq_true h] at hq
                    cases hq
                  · rcases h.2 with h2 | h2
                    · rw [Nat.eq_of_beq_eq_true h2] at hq
                      cases hq
                    · exact ⟨h.1, Nat.le_of_ble_eq_true h2.1⟩
                have hy' := ho2.2
                have hk2 := Nat.eq_of_beq_eq_true hk
                obtain ⟨g1, g3, g4, g5, g6⟩ := (zfM hy').2.2.2.2.2.2.2.2.2.1 hk2
                have hnil := zhh_kd hy' (by rw [hk2]; decide)
                obtain ⟨t1, t2⟩ := ztake_rev htk
                intro hlen L H locs hl hW hS hb0
                have hM := z_meet (D := D) (cA := cA) (b0 := b0) htr hy' (by omega) hfit a6
                have hlk := zwd_in ho2.1
                have hstk : (F0 m pc L (st.map zv)).stack = (as1.map zv).reverse ++ Value.ref a :: st1.map zv := by
                  show st.map zv = _
                  rw [t2]
                  simp [zv, va_rf]
                have hcb := z_callB (s := s) (args := args) (R := R) (y := y) (index := i) hts hy' a5 hdR hlR hnil hlk
                rw [g6] at hcb
                have hr := vx_runI (b := a) (As := as1.map zv) (g := F0 m pc L (st.map zv)) (H := H) (locs := locs) (cells := cells) (slots := slots) (e := e) (below := below) (meth := meth) ⟨hxx, hb, hml, hown, hts⟩ hM ⟨hcb, g5, hts _ g1⟩ ⟨z_blind, z_pre hE hSt hW hS hb0 _⟩ rfl (by rw [List.length_map]; simpa using t1) (by show L.size = _; rw [hl.1, hlen]) hstk (by show 2 * 0 + _ ≤ 8; rw [zsum_cat]; omega) hd ⟨by omega, by omega⟩
                exact z_cont C hX a3 a4 hlen hl hS hb0 hr (fun o M' hq => post o M' hn hq)
            · cases a1
        · rw [hq] at a1
          cases a1
      | _ => cases a1
    · exact zmk_ok hy hCx hE h3 a1 a2 (Nat.le_trans a3 hR3) (Nat.le_trans a4 hR4) (fun q => a5 q C hR hX a3 a4)
    · have hc := zchk_p y hy pc z h3
      obtain ⟨ins, nxt, aux, pos⟩ := z
      dsimp only at a1 a2
      subst a1
      subst a3
      obtain ⟨hd, hn, ho⟩ := zfact hc
      have hble : Nat.ble 1000 aux = true := Nat.ble_eq_true_of_le a2
      simp only [zchkO, hble, cond_true, Bool.and_eq_true, decide_eq_true_eq] at ho
      obtain ⟨⟨o1, o2⟩, o3⟩ := ho
      have hi : aux - 1000 < 34 := Nat.le_of_ble_eq_true o1
      have o3 := Nat.eq_of_beq_eq_true o3
      have hcx := zchk_x _ hi
      simp only [zchkX, o2, Bool.and_eq_true, decide_eq_true_eq] at hcx
      obtain ⟨⟨⟨⟨⟨⟨⟨⟨x1, x2⟩, x3⟩, x4⟩, x5⟩, x6⟩, x7⟩, x8⟩, x9⟩ := hcx
      have hx6 : (zthr (aux - 1000)).1 < 5 := Nat.le_of_ble_eq_true x1
      have w3 := zwd_in x3
      have w4 := zwd_in x4
      obtain ⟨sa, hsa⟩ := hE.2.2.2.1 _ hi
      rw [o2] at hsa
      obtain ⟨r0, r1, r2, r5⟩ := zrx_ok (zthr (aux - 1000)).1
      intro hlen L H locs hl hW hS hb0
      have hno : ∀ w, vx_no w = true → ∀ l : List Cond, (w :: l).filter vx_no = w :: l.filter vx_no := fun w hw l => by rw [List.filter_cons, if_pos hw]
      have hmem : ∀ w ∈ (zatX (zown y) (zthr (aux - 1000)).2.2.2.1 (zexn (zthr (aux - 1000)).1) (zix (zthr (aux - 1000)).1) (zrx (zthr (aux - 1000)).1)).filter vx_no, w.before args s = true ∧ vx_ot w = true := by
        intro w hw
        unfold zatX at hw
        obtain ⟨hw1, hw2⟩ := List.mem_filter.mp hw
        rcases List.mem_cons.mp hw1 with rfl | hw1
        · exact ⟨hts _ w4, by unfold vx_ot; rw [zU_good _ w4, Bool.or_true]⟩
        · have hw3 : w ∈ (zat1 (zexn (zthr (aux - 1000)).1) (zix (zthr (aux - 1000)).1) (zrx (zthr (aux - 1000)).1)).filter vx_no := List.mem_filter.mpr ⟨hw1, hw2⟩
          refine ⟨?_, zxc_ok hx6 w hw3⟩
          cases hg : goodWord w
          · exact zXw_use hE w (zxb_in hx6 w (List.mem_filter.mpr ⟨hw3, by rw [hg]; rfl⟩))
          · exact hts w (zxa_in hx6 w (List.mem_filter.mpr ⟨hw3, hg⟩))
      have wi := zxi_in hx6
      refine z_throw hxx hb htr r0 r1 r2 r5 hown (zxf_ok hx6) (hts _ w3) (hts _ wi) hsa (fun w hw => (hmem w hw).1) (fun w hw => ?_) hSt.1 hSt.2 hS (by rw [hml, hl.1, hlen]) x5 x6 (lx := zlx (aux - 1000)) ?_ x8 x9 hW (by omega) (by show 0 + 82 ≤ _; omega) (Nat.le_trans a5 hR3) (Nat.le_trans a6 hR4) fun q H1 ce hW1 hS1 hz1 hcell hv hcl => ?_
      · rcases List.mem_cons.mp hw with rfl | hw
        · unfold vx_ot
          rw [zU_good _ w3, Bool.or_true]
        · rcases List.mem_cons.mp hw with rfl | hw
          · unfold vx_ot
            rw [zU_good _ wi, Bool.or_true]
          · exact (hmem w hw).2
      · unfold zlx
        cases hwide : (zthr (aux - 1000)).2.2.2.2
        · rw [hwide] at x7
          exact Or.inl ⟨x7, rfl⟩
        · rw [hwide] at x7
          exact Or.inr ⟨x7, rfl⟩
      · have hnil : zhs y = [] := by
          rw [a7] at hrel
          cases hh : zhs y with
          | nil => rfl
          | cons a t =>
            rw [hh] at hrel
            exact hrel.elim
        have hQ := a8 H1.size (by rw [← hW.1]; exact hz1) (fun a ha => hW.2.2 a ha)
        exact vx_widen a5 a6 (hX _ _ L H1 locs _ _ q ce hx6 (by rw [hnil]; rfl) hQ hW1 hS1 hcell hv hcl)
