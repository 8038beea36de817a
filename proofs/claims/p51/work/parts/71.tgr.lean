/-! The class's methods of a puzzle's graph. -/
section TGR
variable {d x z : Nat} {pb rb : Nat → Nat} {T : tfT} {I : Nat → Nat → Int32} {L : Nat → Nat → Int64} {R : zRt} {Q : zO → zM → Prop}
theorem tSetP_id {i : Nat} : tSetP T i (tPz T i) = T := by
  unfold tSetP
  have e : (fun k => if k = i then tPz T i else tPz T k) = tPz T := funext fun k => by
    by_cases q : k = i
    · rw [if_pos q, q]
    · rw [if_neg q]
  rw [e]
theorem tf_same {i : Nat} {I' : Nat → Nat → Int32} {L' : Nat → Nat → Int64} (h : tf x z pb rb T (I, L, R)) (hi : i < tPn T) (f : zfr (pb i) I L I' L') (hR : zPR (pb i) I' L' (pzN (tPz T i)) (pzR (tPz T i)) (pzT (tPz T i)) (pzC (tPz T i)) (pzS (tPz T i))) : tf x z pb rb T (I', L', R) ∧ tfr x z (I, L, R) (I', L', R) := by
  have k := tf_setP (w := tPz T i) h hi f (tf_pz h hi).2.1 hR
  rw [tSetP_id] at k
  exact k
def fF (b : bSt) : Nat → Int := b.1
theorem fF_eq (b : bSt) : b.1 = fF b := rfl
noncomputable abbrev pzF (k : Nat) (w : zPz) : Nat → Int := fF (zBF k (pzR w) (pzT w) (pzC w))
theorem bI_rng {b : bSt} {sz s : Nat} (h : bI sz b) (h8 : sz ≤ 800) (hs : s < sz) : -1 ≤ b.1 s ∧ b.1 s < 1000 := by
  obtain ⟨b1, b2, b3⟩ := h
  have hl : b.2.length ≤ sz := by
    rw [b1]
    exact ct_le _ _
  rcases b3 s hs with h | ⟨i, h1, h2⟩
  · omega
  · have h' := b2 i h1
    rw [h2] at h'
    omega
theorem zBF_rng {k b r : Nat} {tn : Nat → Nat → Nat} {col : Nat → Nat} {s : Nat} (hD : zDr b I L r tn) (hs : s < szG (zG r tn) 10) : -1 ≤ fF (zBF k r tn col) s ∧ fF (zBF k r tn col) s < 1000 := by
  have h : bI (szG (zG r tn) 10) (zBF k r tn col) := by
    unfold zBF
    exact bF_I hD.2.1.2.2.2.2.2
  rw [← fF_eq (zBF k r tn col)]
  exact bI_rng h hD.2.1.1 hs
noncomputable abbrev pzZ (w : zPz) : Nat := szG (pzG w) 10
noncomputable def oCentre (T : tfT) (p : Int) : tRes := onP T p fun i => if ¬ pzZ (tPz T i) ≤ 800 then (2, 0, T) else (0, (ct (fun j => dc (zCen (pzR (tPz T i)) (pzT (tPz T i)) (stG (pzG (tPz T i)) j))) (pzZ (tPz T i)) : Nat), T)
noncomputable def oKinds (T : tfT) (p : Int) : tRes := onP T p fun i => if ¬ pzZ (tPz T i) ≤ 800 then (2, 0, T) else (0, (pzZ (tPz T i) / ct (zSv (pzR (tPz T i)) (pzT (tPz T i)) (pzC (tPz T i))) (pzZ (tPz T i)) : Nat), T)
theorem centreT_ok {p : Int} {a : Int32} (hd : 9 ≤ d) (h : tfx x z T (I, L, R)) (e1 : a = iI p) (h1 : i32 p) (hQ : tP x z (I, L, R) (oCentre T p) [3, 1] eI Q) : zS 111 d [zr (some x), zi a] (I, L, R) Q := by
  subst e1
  have hT := h
  obtain ⟨pb, rb, hf⟩ := h
  refine zW.gc [] rfl rfl rfl (by omega) trivial ⟨_, rfl, tf_k0 hf⟩ (by decide +kernel) (by decide +kernel) ?_
  refine findP_ok (by omega) hf rfl h1 (fun hb N hN => ?_) (fun i hi hp => ?_)
  · exact tP_t hQ hT (if_pos hb) hN
  · subst hi
    unfold oCentre at hQ
    rw [onP_i hp] at hQ
    obtain ⟨hL, hz, hR⟩ := tf_pz hf hp
    have b0 := hL.1
    refine zW.gc [] rfl rfl rfl (by omega) trivial trivial (by decide +kernel) (by decide +kernel) ?_
    refine chkS_ok (by omega) hL hz hR (fun hb N hN => ?_) (fun h8 => ?_)
    · exact tP_t hQ hT (if_pos hb) hN
    refine zW.gc [] rfl rfl rfl (by omega) trivial ⟨_, rfl, b0⟩ (by decide +kernel) (by decide +kernel) ?_
    refine centre_ok (by omega) hL hz hR h8 (fun I' L' f hR' => ?_)
    obtain ⟨k1, k2⟩ := tf_same hf hp f hR'
    refine zW.gr [] rfl rfl rfl (by omega) trivial trivial ?_
    exact tP_0 hQ (if_neg (fun g => g h8)) ⟨_, _, k1⟩ k2
theorem kindsT_ok {p : Int} {a : Int32} (hd : 9 ≤ d) (h : tfx x z T (I, L, R)) (e1 : a = iI p) (h1 : i32 p) (hQ : tP x z (I, L, R) (oKinds T p) [3, 1] eI Q) : zS 112 d [zr (some x), zi a] (I, L, R) Q := by
  subst e1
  have hT := h
  obtain ⟨pb, rb, hf⟩ := h
  refine zW.gc [] rfl rfl rfl (by omega) trivial ⟨_, rfl, tf_k0 hf⟩ (by decide +kernel) (by decide +kernel) ?_
  refine findP_ok (by omega) hf rfl h1 (fun hb N hN => ?_) (fun i hi hp => ?_)
  · exact tP_t hQ hT (if_pos hb) hN
  · subst hi
    unfold oKinds at hQ
    rw [onP_i hp] at hQ
    obtain ⟨hL, hz, hR⟩ := tf_pz hf hp
    have b0 := hL.1
    refine zW.gc [] rfl rfl rfl (by omega) trivial trivial (by decide +kernel) (by decide +kernel) ?_
    refine chkS_ok (by omega) hL hz hR (fun hb N hN => ?_) (fun h8 => ?_)
    · exact tP_t hQ hT (if_pos hb) hN
    refine zW.gc [] rfl rfl rfl (by omega) trivial ⟨_, rfl, b0⟩ (by decide +kernel) (by decide +kernel) ?_
    refine kinds_ok (by omega) hL hz hR h8 (fun I' L' f hR' => ?_)
    obtain ⟨k1, k2⟩ := tf_same hf hp f hR'
    refine zW.gr [] rfl rfl rfl (by omega) trivial trivial ?_
    exact tP_0 hQ (if_neg (fun g => g h8)) ⟨_, _, k1⟩ k2
def onG (T : tfT) (p c : Int) (f : Nat → Nat → tRes) : tRes := onP T p fun i => if ¬ (c = 113 ∨ c = 116) then (2, 0, T) else f i (if c = 113 then 0 else 1)
noncomputable def sml (T : tfT) (i : Nat) (r : tRes) : tRes := @ite tRes (pzZ (tPz T i) ≤ 800) (Classical.propDecidable _) r (3, 0, T)
theorem sml_t {i : Nat} {r : tRes} (h : pzZ (tPz T i) ≤ 800) : sml T i r = r := if_pos h
theorem sml_f {i : Nat} {r : tRes} (h : ¬ pzZ (tPz T i) ≤ 800) : sml T i r = (3, 0, T) := if_neg h
noncomputable def oGod (T : tfT) (p c : Int) : tRes := onG T p c fun i k => sml T i (0, mxd (pzF k (tPz T i)) (pzZ (tPz T i)), T)
noncomputable def oMany (T : tfT) (p c v : Int) : tRes := onG T p c fun i k => sml T i (0, (ct (fun s => decide (pzF k (tPz T i) s = v)) (pzZ (tPz T i)) : Nat), T)
noncomputable def oDist (T : tfT) (p c : Int) : tRes := onG T p c fun i k => sml T i (if dc (pzG (tPz T i) (pzS (tPz T i))) then (0, pzF k (tPz T i) (numG (pzG (tPz T i)) (pzS (tPz T i)) 10), T) else (4, 0, T))
theorem god_ok {p c : Int} {a b : Int32} (hd : 9 ≤ d) (h : tfx x z T (I, L, R)) (e1 : a = iI p) (e2 : b = iI c) (h1 : i32 p) (h2 : i32 c) (hQ : tP x z (I, L, R) (oGod T p c) [3, 0, 1] eI Q) : zS 120 d [zr (some x), zi a, zi b] (I, L, R) Q := by
  subst e1; subst e2
  have hT := h
  obtain ⟨pb, rb, hf⟩ := h
  refine zW.gc [] rfl rfl rfl (by omega) trivial ⟨_, rfl, tf_k0 hf⟩ (by decide +kernel) (by decide +kernel) ?_
  refine findP_ok (by omega) hf rfl h1 (fun hb N hN => ?_) (fun i hi hp => ?_)
  · exact tP_t hQ hT (if_pos hb) hN
  · subst hi
    unfold oGod onG at hQ
    rw [onP_i hp] at hQ
    obtain ⟨hL, hz, hR⟩ := tf_pz hf hp
    have b0 := hL.1
    have F : ∀ (k : Nat) (y : Int32), k < 2 → y = iI (k : Int) → (¬ ¬ (c = 113 ∨ c = 116)) → (if c = 113 then 0 else 1) = k → zW 120 d (0 + zmc 147 + zmc 154) (0 + zms 147 + zms 154) 10 [some (zr (some x)), some (zi (iI (i : Int))), some (zi (iI c)), some (zr (some (pb i))), none] [zi y] (I, L, R) Q := by
      intro k y hk ey hc1 hck
      subst ey
      rw [if_neg hc1, hck] at hQ
      dsimp only at hQ
      refine zW.gc [] rfl rfl rfl (by omega) trivial trivial (by decide +kernel) (by decide +kernel) ?_
      refine chkS_ok (by omega) hL hz hR (fun hb N hN => ?_) (fun h8 => ?_)
      · exact tP_t hQ hT (sml_f hb) hN
      rw [sml_t h8] at hQ
      refine zW.gc [] rfl rfl rfl (by omega) trivial ⟨_, rfl, b0⟩ (by decide +kernel) (by decide +kernel) ?_
      refine measured_ok (by omega) hL hz hR h8 hk rfl (fun I' L' f hR' hD hI' => ?_)
      obtain ⟨k1, k2⟩ := tf_same hf hp f hR'
      have gk := hL.2.2.2.2.2.2.1
      refine zW.gc [] rfl rfl rfl (by omega) trivial ⟨_, rfl, gk⟩ (by decide +kernel) (by decide +kernel) ?_
      have hrg : ∀ s, s < szG (zG (pzR (tPz T i)) (pzT (tPz T i))) 10 → -1 ≤ pzF k (tPz T i) s ∧ pzF k (tPz T i) s < 1000 := fun s hs => zBF_rng hD hs
      have hI2 : ∀ s, s < szG (zG (pzR (tPz T i)) (pzT (tPz T i))) 10 → I' (pb i + 19 + k) s = iI (pzF k (tPz T i) s) := fun s hs => by
        have e := hI' s hs
        rw [fF_eq (zBF k (pzR (tPz T i)) (pzT (tPz T i)) (pzC (tPz T i)))] at e
        exact e
      refine great_ok (k := k) (f := pzF k (tPz T i)) (by omega) hL.2.2.2.2.2.2 (by omega) rfl h8 hD.2.1.2.2.1 (fun s hs => ?_) hrg ?_
      · rw [show pb i + 7 + 12 + k = pb i + 19 + k by omega]
        exact hI2 s hs
      refine zW.gr [] rfl rfl rfl (by omega) trivial trivial ?_
      exact tP_0 hQ rfl ⟨_, _, k1⟩ k2
    refine zW.gc [] rfl rfl rfl (by omega) trivial trivial (by decide +kernel) (by decide +kernel) ?_
    refine kind_ok (by omega) rfl h2 (fun hb N hN => ?_) (fun g => ?_) (fun g => ?_)
    · exact tP_t hQ hT (if_pos hb) hN
    · exact F 0 _ (by omega) rfl (fun n => n (Or.inl g)) (if_pos g)
    · exact F 1 _ (by omega) rfl (fun n => n (Or.inr g)) (if_neg (by omega))
theorem distance_ok {p c : Int} {a b : Int32} (hd : 9 ≤ d) (h : tfx x z T (I, L, R)) (e1 : a = iI p) (e2 : b = iI c) (h1 : i32 p) (h2 : i32 c) (hQ : tP x z (I, L, R) (oDist T p c) [3, 0, 1, 4] eI Q) : zS 119 d [zr (some x), zi a, zi b] (I, L, R) Q := by
  subst e1; subst e2
  have hT := h
  obtain ⟨pb, rb, hf⟩ := h
  refine zW.gc [] rfl rfl rfl (by omega) trivial ⟨_, rfl, tf_k0 hf⟩ (by decide +kernel) (by decide +kernel) ?_
  refine findP_ok (by omega) hf rfl h1 (fun hb N hN => ?_) (fun i hi hp => ?_)
  · exact tP_t hQ hT (if_pos hb) hN
  · subst hi
    unfold oDist onG at hQ
    rw [onP_i hp] at hQ
    obtain ⟨hL, hz, hR⟩ := tf_pz hf hp
    have b0 := hL.1
    have F : ∀ (k : Nat) (y : Int32), k < 2 → y = iI (k : Int) → (¬ ¬ (c = 113 ∨ c = 116)) → (if c = 113 then 0 else 1) = k → zW 119 d (0 + zmc 147 + zmc 154) (0 + zms 147 + zms 154) 10 [some (zr (some x)), some (zi (iI (i : Int))), some (zi (iI c)), some (zr (some (pb i))), none, none, none] [zi y] (I, L, R) Q := by
      intro k y hk ey hc1 hck
      subst ey
      rw [if_neg hc1, hck] at hQ
      dsimp only at hQ
      refine zW.gc [] rfl rfl rfl (by omega) trivial trivial (by decide +kernel) (by decide +kernel) ?_
      refine chkS_ok (by omega) hL hz hR (fun hb N hN => ?_) (fun h8 => ?_)
      · exact tP_t hQ hT (sml_f hb) hN
      rw [sml_t h8] at hQ
      refine zW.gc [] rfl rfl rfl (by omega) trivial ⟨_, rfl, b0⟩ (by decide +kernel) (by decide +kernel) ?_
      refine measured_ok (by omega) hL hz hR h8 hk rfl (fun I' L' f hR' hD hI' => ?_)
      obtain ⟨k1, k2⟩ := tf_same hf hp f hR'
      have gk := hL.2.2.2.2.2.2.1
      have hI2 : ∀ s, s < szG (zG (pzR (tPz T i)) (pzT (tPz T i))) 10 → I' (pb i + 19 + k) s = iI (pzF k (tPz T i) s) := fun s hs => by
        have e := hI' s hs
        rw [fF_eq (zBF k (pzR (tPz T i)) (pzT (tPz T i)) (pzC (tPz T i)))] at e
        exact e
      have r4 := hR'.2.2.2.1
      have hGL := hL.2.2.2.2.2.2
      refine zW.gc [] rfl rfl rfl (by omega) (by simp (disch := omega) only [true_or, or_true, eq_self, Option.some.injEq, Prod.mk.injEq, zall_0, zall_1, zall_2, zob_iff, zar_iff, zis_iff, zkIs_some, zkHas_some, iI_vp, z01_I, z01_bz, zch_I, true_and, and_true, or_false, false_or, and_self, upI_same, upL_same, upI_ne, upL_ne, iI_ixN, zI_mk, zL_mk, zP_mk, zK_mk, zN_mk, zwI_up, zwL_up, zg_some, Nat.reduceMod, Nat.reduceDiv, zcn_I, iI_add, iI_sub, iI_mul, iI_neg, iI_lt, iI_le, iI_eq, iI_lt0, iI_le0, iI_gt0, iI_ge0, iI_eq0, b0] <;> omega) ⟨_, rfl, gk⟩ (by decide +kernel) (by decide +kernel) ?_
      simp (disch := omega) only [upI_same, upL_same, upI_ne, upL_ne, iI_ixN, zI_mk, zL_mk, zP_mk, zK_mk, zN_mk, zwI_up, zwL_up, zg_some, Nat.reduceMod, Nat.reduceDiv, zcn_I, iI_add, iI_sub, iI_mul, iI_neg, iI_lt, iI_le, iI_eq, iI_lt0, iI_le0, iI_gt0, iI_ge0, iI_eq0, r4]
      refine find_ok (G := pzG (tPz T i)) (by omega) hGL (zG_is hz) rfl h8 hD.2.1.2.2.1 hD.2.2 (zst_pm hz) rfl (fun g => ?_) (fun g => ?_)
      · rw [if_pos (dc_t.mpr g)] at hQ
        have hlt := numG_lt (zG_is hz) g 10 (Nat.le_refl _)
        have hn : numG (pzG (tPz T i)) (pzS (tPz T i)) 10 < 800 := Nat.lt_of_lt_of_le hlt h8
        refine zW.gb [] rfl rfl rfl (by omega) trivial (fun h => ?_) (fun h => ?_)
        · obtain ⟨c0, c1⟩ := hGL.2.2.2.2.2.2.2.2.2.2.2.2 k (by omega)
          have p2 := hGL.2.2.2.1
          have k11 := hGL.2.2.2.2.2.2.2.2.1
          have v1 := hI2 _ hlt
          rw [show pb i + 19 + k = pb i + 7 + 12 + k by omega] at v1
          refine zW.gr [] rfl rfl rfl (by omega) (by simp (disch := omega) only [true_or, or_true, eq_self, Option.some.injEq, Prod.mk.injEq, zall_0, zall_1, zall_2, zob_iff, zar_iff, zis_iff, zkIs_some, zkHas_some, iI_vp, z01_I, z01_bz, zch_I, true_and, and_true, or_false, false_or, and_self, upI_same, upL_same, upI_ne, upL_ne, iI_ixN, zI_mk, zL_mk, zP_mk, zK_mk, zN_mk, zwI_up, zwL_up, zg_some, Nat.reduceMod, Nat.reduceDiv, zcn_I, iI_add, iI_sub, iI_mul, iI_neg, iI_lt, iI_le, iI_eq, iI_lt0, iI_le0, iI_gt0, iI_ge0, iI_eq0, gk, p2, k11, c0, c1] <;> omega) trivial ?_
          simp (disch := omega) only [upI_same, upL_same, upI_ne, upL_ne, iI_ixN, zI_mk, zL_mk, zP_mk, zK_mk, zN_mk, zwI_up, zwL_up, zg_some, Nat.reduceMod, Nat.reduceDiv, zcn_I, iI_add, iI_sub, iI_mul, iI_neg, iI_lt, iI_le, iI_eq, iI_lt0, iI_le0, iI_gt0, iI_ge0, iI_eq0, p2, c0, v1]
          exact tP_0 hQ rfl ⟨_, _, k1⟩ k2
        · simp (disch := omega) only [zcn_I, iI_add, iI_sub, iI_mul, iI_neg, iI_lt, iI_le, iI_eq, iI_lt0, iI_le0, iI_gt0, iI_ge0, iI_eq0] at h
          omega
      · rw [if_neg (fun q => g (dc_t.mp q))] at hQ
        refine zW.gb [] rfl rfl rfl (by omega) trivial (fun h => ?_) (fun h => ?_)
        · simp (disch := omega) only [zcn_I, iI_add, iI_sub, iI_mul, iI_neg, iI_lt, iI_le, iI_eq, iI_lt0, iI_le0, iI_gt0, iI_ge0, iI_eq0] at h
          omega
        · refine zW.gt [] rfl rfl rfl (by decide +kernel) (by omega) trivial (by decide +kernel) (by decide +kernel) rfl (fun N hN => ?_)
          exact tP_e hQ rfl ⟨_, _, tf_sm k1 (tsm_gr hN)⟩ (tfr_tr k2 (tfr_gr hN))
    refine zW.gc [] rfl rfl rfl (by omega) trivial trivial (by decide +kernel) (by decide +kernel) ?_
    refine kind_ok (by omega) rfl h2 (fun hb N hN => ?_) (fun g => ?_) (fun g => ?_)
    · exact tP_t hQ hT (if_pos hb) hN
    · exact F 0 _ (by omega) rfl (fun n => n (Or.inl g)) (if_pos g)
    · exact F 1 _ (by omega) rfl (fun n => n (Or.inr g)) (if_neg (by omega))
theorem ct_iI {F0 : Nat → Int} {sz : Nat} {v : Int} (h : ∀ s, s < sz → -1 ≤ F0 s ∧ F0 s < 1000) (h3 : i32 v) : ct (fun i => decide (iI (F0 i) = iI v)) sz = ct (fun s => decide (F0 s = v)) sz := ct_cg fun s hs => by
  have := h s hs
  rw [decide_eq_decide]
  exact iI_eq (by omega) (by omega) h3.1 h3.2
theorem many_ok {p c v : Int} {a b e : Int32} (hd : 9 ≤ d) (h : tfx x z T (I, L, R)) (e1 : a = iI p) (e2 : b = iI c) (e3 : e = iI v) (h1 : i32 p) (h2 : i32 c) (h3 : i32 v) (hQ : tP x z (I, L, R) (oMany T p c v) [3, 0, 1] eI Q) : zS 121 d [zr (some x), zi a, zi b, zi e] (I, L, R) Q := by
  subst e1; subst e2; subst e3
  have hT := h
  obtain ⟨pb, rb, hf⟩ := h
  refine zW.gc [] rfl rfl rfl (by omega) trivial ⟨_, rfl, tf_k0 hf⟩ (by decide +kernel) (by decide +kernel) ?_
  refine findP_ok (by omega) hf rfl h1 (fun hb N hN => ?_) (fun i hi hp => ?_)
  · exact tP_t hQ hT (if_pos hb) hN
  · subst hi
    unfold oMany onG at hQ
    rw [onP_i hp] at hQ
    obtain ⟨hL, hz, hR⟩ := tf_pz hf hp
    have b0 := hL.1
    have F : ∀ (k : Nat) (y : Int32), k < 2 → y = iI (k : Int) → (¬ ¬ (c = 113 ∨ c = 116)) → (if c = 113 then 0 else 1) = k → zW 121 d (0 + zmc 147 + zmc 154) (0 + zms 147 + zms 154) 11 [some (zr (some x)), some (zi (iI (i : Int))), some (zi (iI c)), some (zi (iI v)), some (zr (some (pb i))), none] [zi y] (I, L, R) Q := by
      intro k y hk ey hc1 hck
      subst ey
      rw [if_neg hc1, hck] at hQ
      dsimp only at hQ
      refine zW.gc [] rfl rfl rfl (by omega) trivial trivial (by decide +kernel) (by decide +kernel) ?_
      refine chkS_ok (by omega) hL hz hR (fun hb N hN => ?_) (fun h8 => ?_)
      · exact tP_t hQ hT (sml_f hb) hN
      rw [sml_t h8] at hQ
      refine zW.gc [] rfl rfl rfl (by omega) trivial ⟨_, rfl, b0⟩ (by decide +kernel) (by decide +kernel) ?_
      refine measured_ok (by omega) hL hz hR h8 hk rfl (fun I' L' f hR' hD hI' => ?_)
      obtain ⟨k1, k2⟩ := tf_same hf hp f hR'
      have gk := hL.2.2.2.2.2.2.1
      refine zW.gc [] rfl rfl rfl (by omega) trivial ⟨_, rfl, gk⟩ (by decide +kernel) (by decide +kernel) ?_
      have hrg : ∀ s, s < szG (zG (pzR (tPz T i)) (pzT (tPz T i))) 10 → -1 ≤ pzF k (tPz T i) s ∧ pzF k (tPz T i) s < 1000 := fun s hs => zBF_rng hD hs
      have hI2 : ∀ s, s < szG (zG (pzR (tPz T i)) (pzT (tPz T i))) 10 → I' (pb i + 19 + k) s = iI (pzF k (tPz T i) s) := fun s hs => by
        have e := hI' s hs
        rw [fF_eq (zBF k (pzR (tPz T i)) (pzT (tPz T i)) (pzC (tPz T i)))] at e
        exact e
      refine sat_ok (k := k) (f := pzF k (tPz T i)) (by omega) hL.2.2.2.2.2.2 (by omega) rfl h8 hD.2.1.2.2.1 (fun s hs => ?_) ?_
      · rw [show pb i + 7 + 12 + k = pb i + 19 + k by omega]
        exact hI2 s hs
      rw [ct_iI hrg h3]
      refine zW.gr [] rfl rfl rfl (by omega) trivial trivial ?_
      exact tP_0 hQ rfl ⟨_, _, k1⟩ k2
    refine zW.gc [] rfl rfl rfl (by omega) trivial trivial (by decide +kernel) (by decide +kernel) ?_
    refine kind_ok (by omega) rfl h2 (fun hb N hN => ?_) (fun g => ?_) (fun g => ?_)
    · exact tP_t hQ hT (if_pos hb) hN
    · exact F 0 _ (by omega) rfl (fun n => n (Or.inl g)) (if_pos g)
    · exact F 1 _ (by omega) rfl (fun n => n (Or.inr g)) (if_neg (by omega))
end TGR
