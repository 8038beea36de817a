/-! The law: the object, the width, the first questions. -/
theorem hR_v {x z : Nat} {M : zM} {r : tRes} {en : Int → zV} {Q : zO → zM → Prop} {v : Int} {T' : tfT} (e : r = (0, v, T')) (kk : ∀ M', tfx x z T' M' → tfr x z M M' → Q (.inl (some (en v))) M') : hR x z M r en Q := by
  subst e
  exact fun M' k f => kk M' k f
theorem hR_x {x z c : Nat} {M : zM} {r : tRes} {en : Int → zV} {Q : zO → zM → Prop} {v : Int} {T' : tfT} (e : r = (c + 1, v, T')) (kk : ∀ M', tfx x z T' M' → tfr x z M M' → Q (.inl (some (en (-900000 - ((c + 1 : Nat) : Int))))) M') : hR x z M r en Q := by
  subst e
  exact fun M' k f => kk M' k f
theorem i32_s {v : Int} (h : -1000000 ≤ v ∧ v ≤ 1000000) : i32 v := ⟨by omega, by omega⟩
def C0 (b : Nat) : Nat → Prop := fun a => a = b
def W0 (b Ls : Nat) : (Nat → Nat → Int32) → zRt → Prop := fun _ R => R.2.1 b = some (30, Ls)
theorem dep_0 (b Ls : Nat) : dep (C0 b) (W0 b Ls) := fun _ _ _ _ h w => (h b rfl).2.2.trans w
theorem lS_zOK {x : Nat} {C : Nat → Prop} {W : (Nat → Nat → Int32) → zRt → Prop} {T : tfT} {M : zM} {ty : List Nat} {n r : Nat} {tn : Nat → Nat → Nat} {col st : Nat → Nat} (g : lS x C W T M) (hq : tq T ty (pq n r tn col st)) : zOK n r tn col st := by
  obtain ⟨⟨⟨pb, rb, k1⟩, -⟩, -⟩ := g
  have := k1.1.2.1.2 0 (by rw [hq.2.1]; decide)
  rw [hq.2.2.2] at this
  exact this
theorem zG0_god {n k : Nat} {tn : Nat → Nat → Nat} {st : Nat → Nat} (hz : zOK n 0 tn (fun p => p) st) (hs : szG (zG 0 tn) 10 = 1) : mxd (dF k 0 tn) (szG (zG 0 tn) 10) = 0 := by
  refine Int.le_antisymm (mxd_le (Int.le_refl 0) fun i hi => ?_) (mxd_nn _ _)
  have := dF_lt (k := k) hz (by omega) hi
  rw [hs] at this
  omega
section SA
variable {b Ls N x : Nat} {xs : Nat → Int32} {Q : zO → zM → Prop}
theorem sA1 (hN : b < N) (kk : ∀ c s I L R, bu c s 19900 → lS N (C0 b) (W0 b Ls) T0 (I, L, R) → zW 298 2048 c s 7 (zarg 19 [zr (some b)]) [zr (some N)] (I, L, R) Q) : zS 298 2048 [zr (some b)] (zM0 b Ls N xs) Q := by
  have hI : ∀ a, N ≤ a → (fun (q k : Nat) => if q = b then xs k else (0 : Int32)) a = fun _ => 0 := fun a ha => funext fun k => if_neg (by omega)
  have e0 : zM0 b Ls N xs = ((fun q k => if q = b then xs k else 0), (fun _ _ => 0), ((fun _ _ => none), (fun a => if a = b then some (30, Ls) else none), N)) := rfl
  rw [e0]
  generalize (fun (q k : Nat) => if q = b then xs k else (0 : Int32)) = I at hI ⊢
  generalize (fun (_ _ : Nat) => (0 : Int64)) = Lg
  have hR : ((fun _ _ => none, fun a => if a = b then some (30, Ls) else none, N) : zRt).2.1 b = some (30, Ls) ∧ ((fun _ _ => none, fun a => if a = b then some (30, Ls) else none, N) : zRt).2.2 = N := ⟨if_pos rfl, rfl⟩
  generalize ((fun _ _ => none, fun a => if a = b then some (30, Ls) else none, N) : zRt) = R at hR ⊢
  obtain ⟨hb, hN'⟩ := hR
  refine zW.gm [] rfl rfl rfl (by omega) trivial trivial (by decide +kernel) (by decide +kernel) (fun f1 => ?_)
  simp (disch := omega) only [Nat.add_assoc, iI_ix, Int.toNat_natCast, Int.reduceToNat, Nat.reduceAdd, znew_up, zwP_up, nwR_P, nwR_N, nwR_Ks, nwR_Ko, pwR_R, pwR_s, pwR_o, upI_same, upL_same, upI_ne, upL_ne, iI_ixN, zI_mk, zL_mk, zP_mk, zK_mk, zN_mk, zwI_up, zwL_up, zg_some, Nat.reduceMod, Nat.reduceDiv, zcn_I, hN']
  refine zW.gc [] rfl rfl rfl (by omega) trivial ⟨_, rfl, by simp (disch := omega) only [nwR_P, nwR_N, nwR_Ks, nwR_Ko, zK_mk]; rfl⟩ (by decide +kernel) (by decide +kernel) ?_
  refine tinit_ok (x := N) (by omega) (by simp (disch := omega) only [nwR_N]) (by simp (disch := omega) only [nwR_Ks]) (fun R1 g1 g2 g3 _ => ?_)
  have B1 : R1.2.1 b = some (30, Ls) := by
    rw [(g1 b hN).2]
    simp (disch := omega) only [nwR_Ko, hb]
  have hT : tf N (N + 17) (fun _ => 0) (fun _ => 0) T0 (I, Lg, R1) := tf_0 g3 (Nat.le_refl _) (by omega) (hI _ (Nat.le_refl _)) (hI _ (by omega))
  refine kk _ _ I Lg R1 (by unfold bu; decide +kernel) ⟨⟨⟨_, _, hT⟩, rfl, fun a ha => ⟨?_, fun w => ?_⟩⟩, B1⟩
  · have ha : a = b := ha
    show a < R1.2.2
    omega
  · have ha : a = b := ha
    rcases own_out hT w with q | ⟨i, hi, -⟩
    · omega
    · exact absurd hi (Nat.not_lt_zero i)
/-- up to the rings' count -/
theorem sA2 {c s : Nat} {I : Nat → Nat → Int32} {L : Nat → Nat → Int64} {R : zRt} (hL : Ls ≤ 260) (hb : bu c s 19900) (g : lS x (C0 b) (W0 b Ls) T0 (I, L, R))
    (kk : ∀ (n r c s : Nat) T I L R, (n = 3 ∨ n = 4) → (r = 1 ∨ r = 2) → bu c s 19600 → tq T [] (pq n 0 (fun _ p => p) (fun p => p) (fun p => p)) → lS x (C0 b) (W0 b Ls) T (I, L, R) → ∀ y3, y3 = iI 1 → zW 298 2048 c s 113 [some (zr (some b)), some (zr (some x)), some (zi (iI (n : Int))), some (zi y3), some (zi (iI (r : Int))), none, none, none, none, none, none, none, none, none, none, none, none, none, none] [] (I, L, R) Q) : zW 298 2048 c s 7 (zarg 19 [zr (some b)]) [zr (some x)] (I, L, R) Q := by
  obtain ⟨hb1, hb⟩ := bu_y (y := 296) (j := 1) (k := 19899) hb (by decide +kernel) (by decide +kernel)
  refine zW.gc [] rfl rfl rfl (by omega) trivial trivial hb1.1 hb1.2 ?_
  refine h296_ok (i := 0) (n := 2) (by omega) g.2 hL (zcn_I 0) (by omega) (zcn_I 2) (by omega) (by omega) (fun v hv => ?_)
  refine zW.go [17] rfl (by omega) trivial ?_
  obtain ⟨n, hn, en⟩ : ∃ n : Nat, (n = 3 ∨ n = 4) ∧ zcn 3 + iI (v : Int) = iI (n : Int) := ⟨3 + v, by omega, by rw [zcn_I, iI_add]; exact iI_cg (by omega)⟩
  rw [en]
  -- puzzle(2)
  obtain ⟨hb1, hb⟩ := bu_y (y := 256) (j := 99) (k := 19800) hb (by decide +kernel) (by decide +kernel)
  refine zW.gc [] rfl rfl rfl (by omega) trivial trivial hb1.1 hb1.2 ?_
  refine h256_ok (v1 := 2) (by omega) g.1.1 (zcn_I 2) (i32_s (by omega)) (hR_x (c := 0) (v := 0) (T' := T0) (if_pos (by omega)) (fun M1 k1 f1 => ?_))
  obtain ⟨I1, L1, R1⟩ := M1
  have g := lS_call (dep_0 b Ls) g k1 rfl f1
  refine zW.gbf [] rfl rfl rfl (by omega) trivial (fun q => q (by decide +kernel)) ?_
  -- typePlace(10)
  obtain ⟨hb1, hb⟩ := bu_y (y := 255) (j := 1) (k := 19799) hb (by decide +kernel) (by decide +kernel)
  refine zW.gc [] rfl rfl rfl (by omega) trivial trivial hb1.1 hb1.2 ?_
  refine h255_ok (v1 := 10) (by omega) g.1.1 (zcn_I 10) (i32_s (by omega)) (hR_x (c := 0) (v := 0) (T' := T0) (if_pos (by omega)) (fun M2 k1 f1 => ?_))
  obtain ⟨I2, L2, R2⟩ := M2
  have g := lS_call (dep_0 b Ls) g k1 rfl f1
  refine zW.gbf [] rfl rfl rfl (by omega) trivial (fun q => q (by decide +kernel)) ?_
  -- puzzle(n)
  obtain ⟨hb1, hb⟩ := bu_y (y := 256) (j := 99) (k := 19700) (bu_le hb (by omega)) (by decide +kernel) (by decide +kernel)
  obtain ⟨T, hT, hq⟩ : ∃ T, T = tNewP T0 n ∧ tq T [] (pq n 0 (fun _ p => p) (fun p => p) (fun p => p)) := ⟨_, rfl, rfl, rfl, rfl, exb_s (tPz T0) 0 (pz0 n)⟩
  have ep : oPuz T0 (n : Int) = (0, 0, T) := by
    rw [hT]
    exact (if_neg (fun q => q ⟨by omega, by omega⟩)).trans (if_neg (fun q => q (by decide)))
  refine zW.gc [] rfl rfl rfl (by omega) trivial trivial hb1.1 hb1.2 ?_
  refine h256_ok (v1 := (n : Int)) (by omega) g.1.1 rfl (i32_s (by omega)) (hR_v ep (fun M3 k1 f1 => ?_))
  obtain ⟨I3, L3, R3⟩ := M3
  have g := lS_call (dep_0 b Ls) g k1 hq.2.2.1 f1
  refine zW.gbf [] rfl rfl rfl (by omega) trivial (fun q => q iI_0) ?_
  clear ep hT
  have hz := lS_zOK g hq
  have hs1 := enu_sz (zG_is hz) (zG0_enu (fun _ p => p))
  -- order(0), order(1)
  obtain ⟨hb1, hb⟩ := bu_y (y := 264) (j := 1) (k := 19699) hb (by decide +kernel) (by decide +kernel)
  refine zW.gc [] rfl rfl rfl (by omega) trivial trivial hb1.1 hb1.2 ?_
  refine h264_ok (v1 := 0) (by omega) g.1.1 (zcn_I 0) (i32_s (by omega)) (hR_v (q_order hq) (fun M4 k1 f1 => ?_))
  obtain ⟨I4, L4, R4⟩ := M4
  have g := lS_call (dep_0 b Ls) g k1 hq.2.2.1 f1
  refine zW.gbf [] rfl rfl rfl (by omega) trivial (fun q => q ((lg_cmp_eq _ _).mpr (by rw [hs1]; decide +kernel))) ?_
  obtain ⟨hb1, hb⟩ := bu_y (y := 264) (j := 1) (k := 19698) hb (by decide +kernel) (by decide +kernel)
  refine zW.gc [] rfl rfl rfl (by omega) trivial trivial hb1.1 hb1.2 ?_
  refine h264_ok (v1 := 1) (by omega) g.1.1 (zcn_I 1) (i32_s (by omega)) (hR_x (q_order1 (by rw [hq.2.1]; exact Nat.le_refl 1)) (fun M5 k1 f1 => ?_))
  obtain ⟨I5, L5, R5⟩ := M5
  have g := lS_call (dep_0 b Ls) g k1 hq.2.2.1 f1
  refine zW.gbf [] rfl rfl rfl (by omega) trivial (fun q => q ((lg_cmp_eq _ _).mpr (by decide +kernel))) ?_
  -- ring(0, 1)
  obtain ⟨hb1, hb⟩ := bu_y (y := 257) (j := 1) (k := 19697) hb (by decide +kernel) (by decide +kernel)
  refine zW.gc [] rfl rfl rfl (by omega) trivial trivial hb1.1 hb1.2 ?_
  refine h257_ok (v1 := 0) (v2 := 1) (by omega) g.1.1 (zcn_I 0) (zcn_I 1) (i32_s (by omega)) (i32_s (by omega)) (hR_x (q_ringB hq (fun q => absurd q.1 (by decide))) (fun M6 k1 f1 => ?_))
  obtain ⟨I6, L6, R6⟩ := M6
  have g := lS_call (dep_0 b Ls) g k1 hq.2.2.1 f1
  refine zW.gbf [] rfl rfl rfl (by omega) trivial (fun q => q (by decide +kernel)) ?_
  -- orbits(0)
  obtain ⟨hb1, hb⟩ := bu_y (y := 269) (j := 1) (k := 19696) hb (by decide +kernel) (by decide +kernel)
  refine zW.gc [] rfl rfl rfl (by omega) trivial trivial hb1.1 hb1.2 ?_
  refine h269_ok (v1 := 0) (by omega) g.1.1 (zcn_I 0) (i32_s (by omega)) (hR_v (q_orbs hq) (fun M7 k1 f1 => ?_))
  obtain ⟨I7, L7, R7⟩ := M7
  have g := lS_call (dep_0 b Ls) g k1 hq.2.2.1 f1
  refine zW.gbf [] rfl rfl rfl (by omega) trivial (fun q => q (by rw [zG0_orb]; exact iI_0)) ?_
  -- god(0, 'q')
  obtain ⟨hb1, hb⟩ := bu_y (y := 275) (j := 1) (k := 19695) hb (by decide +kernel) (by decide +kernel)
  refine zW.gc [] rfl rfl rfl (by omega) trivial trivial hb1.1 hb1.2 ?_
  refine h275_ok (v1 := 0) (v2 := 113) (by omega) g.1.1 (zcn_I 0) (zcn_I 113) (i32_s (by omega)) (by omega) (by omega) (hR_v (q_god hq (by omega) (k := 0) (Or.inl ⟨rfl, rfl⟩)) (fun M8 k1 f1 => ?_))
  obtain ⟨I8, L8, R8⟩ := M8
  have g := lS_call (dep_0 b Ls) g k1 hq.2.2.1 f1
  refine zW.gbf [] rfl rfl rfl (by omega) trivial (fun q => q (by rw [zG0_god hz hs1]; exact iI_0)) ?_
  -- how many rings
  obtain ⟨hb1, hb⟩ := bu_y (y := 296) (j := 1) (k := 19694) hb (by decide +kernel) (by decide +kernel)
  refine zW.gc [] rfl rfl rfl (by omega) trivial trivial hb1.1 hb1.2 ?_
  refine h296_ok (i := 1) (n := 2) (by omega) g.2 hL (zcn_I 1) (by omega) (zcn_I 2) (by omega) (by omega) (fun v hv => ?_)
  refine zW.go [113] rfl (by omega) trivial ?_
  obtain ⟨r, hr, er⟩ : ∃ r : Nat, (r = 1 ∨ r = 2) ∧ zcn 1 + iI (v : Int) = iI (r : Int) := ⟨1 + v, by omega, by rw [zcn_I, iI_add]; exact iI_cg (by omega)⟩
  rw [er]
  exact kk n r _ _ T _ _ _ hn hr (bu_le hb (by omega)) hq g _ (zcn_I 1)
end SA
