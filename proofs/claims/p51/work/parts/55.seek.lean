/-! The seeker: its cells. -/
theorem and1023 (x : Int32) : ∃ n : Nat, n < 1024 ∧ x &&& iI 1023 = iI (n : Int) := by
  have e0 : iI 1023 = nI 1023 := (nI_I 1023).symm
  refine ⟨x.toBitVec.toNat % 1024, Nat.mod_lt _ (by decide), ?_⟩
  rw [e0, ← nI_I]
  refine Int32.toBitVec_inj.mp ?_
  show x.toBitVec &&& BitVec.ofNat 32 1023 = BitVec.ofNat 32 (x.toBitVec.toNat % 1024)
  refine BitVec.eq_of_toNat_eq ?_
  simp only [BitVec.toNat_and, BitVec.toNat_ofNat]
  have e1 : x.toBitVec.toNat &&& 1023 = x.toBitVec.toNat % 1024 := Nat.and_two_pow_sub_one_eq_mod _ 10
  show x.toBitVec.toNat &&& 1023 = x.toBitVec.toNat % 1024 % 4294967296
  rw [e1]
  omega
theorem and1023N {n : Nat} (h : n < 2147483648) : iI (n : Int) &&& iI 1023 = iI ((n % 1024 : Nat) : Int) := by
  have e0 : iI 1023 = nI 1023 := (nI_I 1023).symm
  rw [e0, ← nI_I, ← nI_I]
  refine Int32.toBitVec_inj.mp ?_
  show BitVec.ofNat 32 n &&& BitVec.ofNat 32 1023 = BitVec.ofNat 32 (n % 1024)
  refine BitVec.eq_of_toNat_eq ?_
  simp only [BitVec.toNat_and, BitVec.toNat_ofNat]
  have e1 : n % 4294967296 &&& 1023 = n % 4294967296 % 1024 := Nat.and_two_pow_sub_one_eq_mod _ 10
  show n % 4294967296 &&& 1023 = n % 1024 % 4294967296
  rw [e1]
  omega
/-- where a row's cells begin -/
noncomputable def hs (o : Int64) : Nat := Classical.choose (and1023 (((o * Int64.ofInt (zldL 4115)).toUInt64 >>> ((zcn 54).toInt64.toUInt64 &&& Int64.toUInt64 63)).toInt64.toInt32))
theorem hs_lt (o : Int64) : hs o < 1024 := (Classical.choose_spec (and1023 _)).1
theorem hs_eq (o : Int64) : (((o * Int64.ofInt (zldL 4115)).toUInt64 >>> ((zcn 54).toInt64.toUInt64 &&& Int64.toUInt64 63)).toInt64.toInt32) &&& iI 1023 = iI (hs o : Int) := (Classical.choose_spec (and1023 _)).2
abbrev zCe : Type := Nat → Option (Int64 × Nat)
/-- the j-th cell that is looked at for a row -/
noncomputable def cej (o : Int64) (j : Nat) : Nat := (hs o + j) % 1024
theorem cej_lt (o : Int64) (j : Nat) : cej o j < 1024 := Nat.mod_lt _ (by decide)
/-- cells ahead of the j-th hold other rows -/
def cePre (t : zCe) (o : Int64) (j : Nat) : Prop := ∀ i, i < j → ∃ k e, t (cej o i) = some (k, e) ∧ k ≠ o
def ceOK (t : zCe) : Prop := ∀ c k e, c < 1024 → t c = some (k, e) → ∃ j, j < 1024 ∧ c = cej k j ∧ cePre t k j
theorem cePre_set {t : zCe} {c : Nat} {k o : Int64} {e j : Nat} (hn : t c = none) (h : cePre t o j) : cePre (fun b => if b = c then some (k, e) else t b) o j := by
  intro i hi
  obtain ⟨k', e', h1, h2⟩ := h i hi
  refine ⟨k', e', ?_, h2⟩
  show (if cej o i = c then some (k, e) else t (cej o i)) = _
  rw [if_neg fun q => by rw [q, hn] at h1; cases h1]
  exact h1
theorem ceOK_set {t : zCe} {c j : Nat} {k : Int64} {e : Nat} (h : ceOK t) (hn : t c = none) (hj : j < 1024) (hc : c = cej k j) (hp : cePre t k j) : ceOK (fun b => if b = c then some (k, e) else t b) := by
  intro c' k' e' hc' q
  by_cases cc : c' = c
  · have q : (if c' = c then some (k, e) else t c') = some (k', e') := q
    rw [if_pos cc] at q
    cases q
    exact ⟨j, hj, cc.trans hc, cePre_set hn hp⟩
  · have q : (if c' = c then some (k, e) else t c') = some (k', e') := q
    rw [if_neg cc] at q
    obtain ⟨i, h1, h2, h3⟩ := h c' k' e' hc' q
    exact ⟨i, h1, h2, cePre_set hn h3⟩
/-- a cell with a row, looked for: the first that stops is the one -/
theorem ce_uniq {t : zCe} {o : Int64} {j i e : Nat} (hp : cePre t o j) (hi : cePre t o i) (hx : t (cej o i) = some (o, e)) (hs : t (cej o j) = none ∨ ∃ e', t (cej o j) = some (o, e')) : j = i := by
  rcases Nat.lt_trichotomy j i with c | c | c
  · obtain ⟨k, e2, h1, h2⟩ := hi j c
    rcases hs with q | ⟨e', q⟩
    · rw [q] at h1
      cases h1
    · rw [q] at h1
      cases h1
      exact absurd rfl h2
  · exact c
  · obtain ⟨k, e2, h1, h2⟩ := hp i c
    rw [hx] at h1
    cases h1
    exact absurd rfl h2
def SL (s : Nat) (R : zRt) : Prop := R.2.1 s = some (4, 0) ∧ R.1 s 0 = some (s + 1) ∧ R.1 s 1 = some (s + 2) ∧ R.1 s 2 = some (s + 3) ∧ R.1 s 3 = some (s + 4) ∧ R.1 s 4 = some (s + 5) ∧ R.2.1 (s + 1) = some (21, 1024) ∧ R.2.1 (s + 2) = some (20, 1024) ∧ R.2.1 (s + 3) = some (21, 585) ∧ R.2.1 (s + 4) = some (20, 585) ∧ R.2.1 (s + 5) = some (20, 6)
def ceR (s : Nat) (I : Nat → Nat → Int32) (L : Nat → Nat → Int64) (t : zCe) : Prop := ∀ c, c < 1024 → (t c = none → I (s + 2) c = iI (-1)) ∧ ∀ k e, t c = some (k, e) → I (s + 2) c = iI (e : Int) ∧ L (s + 1) c = k ∧ e ≤ 3
section SEEK
variable {d s : Nat} {I : Nat → Nat → Int32} {L : Nat → Nat → Int64} {R : zRt} {Q : zO → zM → Prop}
theorem cell_lp {t : zCe} {o : Int64} (hd : 1 ≤ d) (hL : SL s R) (hR : ceR s I L t) (hex : ∃ j, j < 1024 ∧ t (cej o j) = none)
    (hQ : ∀ j, j < 1024 → cePre t o j → (t (cej o j) = none ∨ ∃ e, t (cej o j) = some (o, e)) → Q (.inl (some (zi (iI (cej o j : Int))))) (I, L, R)) :
    ∀ n j, j + n = 1024 → cePre t o j → (∃ i, j ≤ i ∧ i < 1024 ∧ t (cej o i) = none) → ∀ (x y : Int32), x = iI (cej o j : Int) → y = iI (j : Int) → zW 80 d 0 0 17 [some (zr (some s)), some (zl o), none, some (zi x), some (zi y)] [] (I, L, R) Q
  | 0, j, hj, hp, hx, x, y, e1, e2 => by
    obtain ⟨i, h1, h2, h3⟩ := hx
    omega
  | n + 1, j, hj, hp, hx, x, y, e1, e2 => by
    subst e1; subst e2
    obtain ⟨k0, p0, p1, p2, p3, p4, k1, k2, k3, k4, k5⟩ := hL
    have hcl := cej_lt o j
    obtain ⟨r1, r2⟩ := hR _ hcl
    refine zW.gbf [] rfl rfl rfl hd trivial ?_ ?_
    · exact (by simp (disch := omega) only [eq_self, not_true_eq_false, not_false_eq_true, upI_same, upL_same, upI_ne, upL_ne, iI_ixN, zI_mk, zL_mk, zP_mk, zK_mk, zN_mk, zwI_up, zwL_up, zg_some, Nat.reduceMod, Nat.reduceDiv, zcn_I, iI_add, iI_sub, iI_mul, iI_neg, iI_lt, iI_le, iI_eq, iI_lt0, iI_le0, iI_gt0, iI_ge0, iI_eq0] <;> omega)
    cases ht : t (cej o j) with
    | none =>
      have r1 := r1 ht
      refine zW.gbt [] rfl rfl rfl hd ?_ ?_ (zW.gr [] rfl rfl rfl hd trivial trivial (hQ j (by omega) hp (Or.inl ht)))
      · exact (by simp (disch := omega) only [true_or, or_true, eq_self, Option.some.injEq, Prod.mk.injEq, zall_0, zall_1, zall_2, zob_iff, zar_iff, zis_iff, zkIs_some, zkHas_some, iI_vp, z01_I, z01_bz, zch_I, true_and, and_true, or_false, false_or, and_self, upI_same, upL_same, upI_ne, upL_ne, iI_ixN, zI_mk, zL_mk, zP_mk, zK_mk, zN_mk, zwI_up, zwL_up, zg_some, Nat.reduceMod, Nat.reduceDiv, zcn_I, iI_add, iI_sub, iI_mul, iI_neg, iI_lt, iI_le, iI_eq, iI_lt0, iI_le0, iI_gt0, iI_ge0, iI_eq0, k0, p1, k2] <;> omega)
      · exact (by simp (disch := omega) only [eq_self, not_true_eq_false, not_false_eq_true, upI_same, upL_same, upI_ne, upL_ne, iI_ixN, zI_mk, zL_mk, zP_mk, zK_mk, zN_mk, zwI_up, zwL_up, zg_some, Nat.reduceMod, Nat.reduceDiv, zcn_I, iI_add, iI_sub, iI_mul, iI_neg, iI_lt, iI_le, iI_eq, iI_lt0, iI_le0, iI_gt0, iI_ge0, iI_eq0, p1, r1] <;> omega)
    | some ke =>
      obtain ⟨k, e⟩ := ke
      obtain ⟨a1, a2, a3⟩ := r2 k e ht
      refine zW.gbf [] rfl rfl rfl hd ?_ ?_ (zW.gb [] rfl rfl rfl hd ?_ (fun h => ?_) (fun h => ?_))
      · exact (by simp (disch := omega) only [true_or, or_true, eq_self, Option.some.injEq, Prod.mk.injEq, zall_0, zall_1, zall_2, zob_iff, zar_iff, zis_iff, zkIs_some, zkHas_some, iI_vp, z01_I, z01_bz, zch_I, true_and, and_true, or_false, false_or, and_self, upI_same, upL_same, upI_ne, upL_ne, iI_ixN, zI_mk, zL_mk, zP_mk, zK_mk, zN_mk, zwI_up, zwL_up, zg_some, Nat.reduceMod, Nat.reduceDiv, zcn_I, iI_add, iI_sub, iI_mul, iI_neg, iI_lt, iI_le, iI_eq, iI_lt0, iI_le0, iI_gt0, iI_ge0, iI_eq0, k0, p1, k2] <;> omega)
      · exact (by simp (disch := omega) only [eq_self, not_true_eq_false, not_false_eq_true, upI_same, upL_same, upI_ne, upL_ne, iI_ixN, zI_mk, zL_mk, zP_mk, zK_mk, zN_mk, zwI_up, zwL_up, zg_some, Nat.reduceMod, Nat.reduceDiv, zcn_I, iI_add, iI_sub, iI_mul, iI_neg, iI_lt, iI_le, iI_eq, iI_lt0, iI_le0, iI_gt0, iI_ge0, iI_eq0, p1, a1] <;> omega)
      · exact (by simp (disch := omega) only [true_or, or_true, eq_self, Option.some.injEq, Prod.mk.injEq, zall_0, zall_1, zall_2, zob_iff, zar_iff, zis_iff, zkIs_some, zkHas_some, iI_vp, z01_I, z01_bz, zch_I, true_and, and_true, or_false, false_or, and_self, upI_same, upL_same, upI_ne, upL_ne, iI_ixN, zI_mk, zL_mk, zP_mk, zK_mk, zN_mk, zwI_up, zwL_up, zg_some, Nat.reduceMod, Nat.reduceDiv, zcn_I, iI_add, iI_sub, iI_mul, iI_neg, iI_lt, iI_le, iI_eq, iI_lt0, iI_le0, iI_gt0, iI_ge0, iI_eq0, k0, p0, k1] <;> omega)
      · rw [lg_cmp_eq] at h
        simp (disch := omega) only [upI_same, upL_same, upI_ne, upL_ne, iI_ixN, zI_mk, zL_mk, zP_mk, zK_mk, zN_mk, zwI_up, zwL_up, zg_some, Nat.reduceMod, Nat.reduceDiv, p0, a2] at h
        subst h
        exact zW.gr [] rfl rfl rfl hd trivial trivial (hQ j (by omega) hp (Or.inr ⟨e, ht⟩))
      · rw [lg_cmp_eq] at h
        simp (disch := omega) only [upI_same, upL_same, upI_ne, upL_ne, iI_ixN, zI_mk, zL_mk, zP_mk, zK_mk, zN_mk, zwI_up, zwL_up, zg_some, Nat.reduceMod, Nat.reduceDiv, p0, a2] at h
        refine zW.go [17] rfl hd trivial ?_
        refine cell_lp hd ⟨k0, p0, p1, p2, p3, p4, k1, k2, k3, k4, k5⟩ hR hex hQ n (j + 1) (by omega) (fun i hi => ?_) ?_ _ _ ?_ ?_
        · by_cases c : i = j
          · rw [c]
            exact ⟨k, e, ht, h⟩
          · exact hp i (by omega)
        · obtain ⟨i, h1, h2, h3⟩ := hx
          refine ⟨i, ?_, h2, h3⟩
          have : i ≠ j := fun q => by rw [q, ht] at h3; cases h3
          omega
        · have e1 : (cej o j : Int) + 1 = ((cej o j + 1 : Nat) : Int) := by omega
          simp only [zcn_I, iI_add]
          rw [e1, and1023N (by omega)]
          refine iI_cg (congrArg Nat.cast ?_)
          unfold cej
          rw [Nat.mod_add_mod]
          rfl
        · exact (by simp (disch := omega) only [eq_self, not_true_eq_false, not_false_eq_true, upI_same, upL_same, upI_ne, upL_ne, iI_ixN, zI_mk, zL_mk, zP_mk, zK_mk, zN_mk, zwI_up, zwL_up, zg_some, Nat.reduceMod, Nat.reduceDiv, zcn_I, iI_add, iI_sub, iI_mul, iI_neg, iI_lt, iI_le, iI_eq, iI_lt0, iI_le0, iI_gt0, iI_ge0, iI_eq0] <;> omega)
theorem cell_ok {t : zCe} {o : Int64} (hd : 1 ≤ d) (hL : SL s R) (hR : ceR s I L t) (hex : ∃ c, c < 1024 ∧ t c = none)
    (hQ : ∀ j, j < 1024 → cePre t o j → (t (cej o j) = none ∨ ∃ e, t (cej o j) = some (o, e)) → Q (.inl (some (zi (iI (cej o j : Int))))) (I, L, R)) : zS 80 d [zr (some s), zl o] (I, L, R) Q := by
  have hex2 : ∃ j, j < 1024 ∧ t (cej o j) = none := by
    obtain ⟨c, h1, h2⟩ := hex
    have hh := hs_lt o
    refine ⟨(c + (1024 - hs o)) % 1024, Nat.mod_lt _ (by decide), ?_⟩
    have : cej o ((c + (1024 - hs o)) % 1024) = c := by
      unfold cej
      rw [Nat.add_mod_mod, show hs o + (c + (1024 - hs o)) = c + 1024 by omega, Nat.add_mod_right, Nat.mod_eq_of_lt h1]
    rw [this]
    exact h2
  refine zW.go [17] rfl hd trivial ?_
  have e0 : zcn 1023 = iI 1023 := zcn_I 1023
  rw [e0, hs_eq]
  refine cell_lp hd hL hR hex2 hQ 1024 0 rfl (fun i h => absurd h (Nat.not_lt_zero i)) ?_ _ _ ?_ rfl
  · obtain ⟨j, h1, h2⟩ := hex2
    exact ⟨j, Nat.zero_le _, h1, h2⟩
  · refine iI_cg (congrArg Nat.cast ?_)
    unfold cej
    rw [Nat.add_zero, Nat.mod_eq_of_lt (hs_lt o)]
/-- what is gathered: rows, depths, how many -/
def gaR (s : Nat) (I : Nat → Nat → Int32) (L : Nat → Nat → Int64) (gf : Nat → Nat → Nat) (gd : Nat → Nat) (gc : Nat) : Prop := I s 5 = iI (gc : Int) ∧ ∀ i, i < gc → L (s + 3) i = Rw (gf i) ∧ I (s + 4) i = iI (gd i : Int)
def gaT (t : zCe) (gf : Nat → Nat → Nat) (gd : Nat → Nat) (gc : Nat) : Prop := ceOK t ∧ gc ≤ 585 ∧ ct (fun c => (t c).isSome) 1024 = gc ∧ (∀ i, i < gc → nb (gf i) ∧ gd i ≤ 3 ∧ ∃ c, c < 1024 ∧ t c = some (Rw (gf i), gd i)) ∧ ∀ c k e, c < 1024 → t c = some (k, e) → ∃ i, i < gc ∧ k = Rw (gf i) ∧ e = gd i
theorem gaT_free {t : zCe} {gf : Nat → Nat → Nat} {gd : Nat → Nat} {gc : Nat} (h : gaT t gf gd gc) : ∃ c, c < 1024 ∧ t c = none := by
  refine Classical.byContradiction fun q => ?_
  have h1 : ∀ c, c < 1024 → (t c).isSome = true := fun c hc => by
    cases e : t c with
    | none => exact absurd ⟨c, hc, e⟩ q
    | some x => rfl
  have h2 : ct (fun c => (t c).isSome) 1024 = ct (fun _ => true) 1024 := ct_cg h1
  have h3 : ct (fun _ => true) 1024 = 1024 := by decide +kernel
  have := h.2.1
  rw [← h.2.2.1, h2, h3] at this
  omega
/-- all that a seeking writes -/
def sfr (s : Nat) (I : Nat → Nat → Int32) (L : Nat → Nat → Int64) (I' : Nat → Nat → Int32) (L' : Nat → Nat → Int64) : Prop := (∀ a, ¬ (s ≤ a ∧ a < s + 6) → I' a = I a) ∧ ∀ a, ¬ (s ≤ a ∧ a < s + 6) → L' a = L a
theorem sfr_rf (s : Nat) (I : Nat → Nat → Int32) (L : Nat → Nat → Int64) : sfr s I L I L := ⟨fun _ _ => rfl, fun _ _ => rfl⟩
theorem sfr_tr {s : Nat} {I I1 I2 : Nat → Nat → Int32} {L L1 L2 : Nat → Nat → Int64} (h1 : sfr s I L I1 L1) (h2 : sfr s I1 L1 I2 L2) : sfr s I L I2 L2 := ⟨fun a q => (h2.1 a q).trans (h1.1 a q), fun a q => (h2.2 a q).trans (h1.2 a q)⟩
/-- a row is taken: it is there already, or comes behind the others -/
theorem take_r {t : zCe} {gf : Nat → Nat → Nat} {gd : Nat → Nat} {gc v : Nat} {f : Nat → Nat} {o : Int64} {x : Int32} (hd : 2 ≤ d) (hL : SL s R) (hR : ceR s I L t) (hG : gaR s I L gf gd gc) (hT : gaT t gf gd gc) (e1 : o = Rw f) (e2 : x = iI (v : Int)) (hf : nb f) (hv : v ≤ 3) (hgc : gc < 585)
    (h1 : ∀ i, i < gc → Rw (gf i) = Rw f → Q (.inl none) (I, L, R))
    (h0 : (∀ i, i < gc → Rw (gf i) ≠ Rw f) → ∀ I' L' t', sfr s I L I' L' → ceR s I' L' t' → gaR s I' L' (fun i => if i = gc then f else gf i) (fun i => if i = gc then v else gd i) (gc + 1) → gaT t' (fun i => if i = gc then f else gf i) (fun i => if i = gc then v else gd i) (gc + 1) → Q (.inl none) (I', L', R)) : zS 79 d [zr (some s), zl o, zi x] (I, L, R) Q := by
  subst e1; subst e2
  have hL' := hL
  obtain ⟨k0, p0, p1, p2, p3, p4, k1, k2, k3, k4, k5⟩ := hL'
  have g5 := hG.1
  refine zW.gz [] rfl rfl rfl hd trivial ?_ rfl rfl (Nat.le_refl _) (Nat.le_refl _) ?_
  · exact ⟨_, rfl, k0⟩
  · refine cell_ok (by omega) hL hR (gaT_free hT) (fun j hj hp hstop => ?_)
    have hcl := cej_lt (Rw f) j
    generalize hc : cej (Rw f) j = c at hcl hstop ⊢
    rcases hstop with hn | ⟨e, he⟩
    · have r1 := (hR c hcl).1 hn
      refine zW.gbf [] rfl rfl rfl (by omega) ?_ ?_ (zW.gbf [] rfl rfl rfl (by omega) ?_ ?_ (zW.gr [] rfl rfl rfl (by omega) ?_ trivial ?_))
      · exact (by simp (disch := omega) only [true_or, or_true, eq_self, Option.some.injEq, Prod.mk.injEq, zall_0, zall_1, zall_2, zob_iff, zar_iff, zis_iff, zkIs_some, zkHas_some, iI_vp, z01_I, z01_bz, zch_I, true_and, and_true, or_false, false_or, and_self, upI_same, upL_same, upI_ne, upL_ne, iI_ixN, zI_mk, zL_mk, zP_mk, zK_mk, zN_mk, zwI_up, zwL_up, zg_some, Nat.reduceMod, Nat.reduceDiv, zcn_I, iI_add, iI_sub, iI_mul, iI_neg, iI_lt, iI_le, iI_eq, iI_lt0, iI_le0, iI_gt0, iI_ge0, iI_eq0, k0, p1, k2] <;> omega)
      · exact (by simp (disch := omega) only [eq_self, not_true_eq_false, not_false_eq_true, upI_same, upL_same, upI_ne, upL_ne, iI_ixN, zI_mk, zL_mk, zP_mk, zK_mk, zN_mk, zwI_up, zwL_up, zg_some, Nat.reduceMod, Nat.reduceDiv, zcn_I, iI_add, iI_sub, iI_mul, iI_neg, iI_lt, iI_le, iI_eq, iI_lt0, iI_le0, iI_gt0, iI_ge0, iI_eq0, p1, r1] <;> omega)
      · exact (by simp (disch := omega) only [true_or, or_true, eq_self, Option.some.injEq, Prod.mk.injEq, zall_0, zall_1, zall_2, zob_iff, zar_iff, zis_iff, zkIs_some, zkHas_some, iI_vp, z01_I, z01_bz, zch_I, true_and, and_true, or_false, false_or, and_self, upI_same, upL_same, upI_ne, upL_ne, iI_ixN, zI_mk, zL_mk, zP_mk, zK_mk, zN_mk, zwI_up, zwL_up, zg_some, Nat.reduceMod, Nat.reduceDiv, zcn_I, iI_add, iI_sub, iI_mul, iI_neg, iI_lt, iI_le, iI_eq, iI_lt0, iI_le0, iI_gt0, iI_ge0, iI_eq0, k0] <;> omega)
      · exact (by simp (disch := omega) only [eq_self, not_true_eq_false, not_false_eq_true, upI_same, upL_same, upI_ne, upL_ne, iI_ixN, zI_mk, zL_mk, zP_mk, zK_mk, zN_mk, zwI_up, zwL_up, zg_some, Nat.reduceMod, Nat.reduceDiv, zcn_I, iI_add, iI_sub, iI_mul, iI_neg, iI_lt, iI_le, iI_eq, iI_lt0, iI_le0, iI_gt0, iI_ge0, iI_eq0, g5] <;> omega)
      · simp (disch := omega) only [upI_same, upL_same, upI_ne, upL_ne, iI_ixN, zI_mk, zL_mk, zP_mk, zK_mk, zN_mk, zwI_up, zwL_up, zg_some, Nat.reduceMod, Nat.reduceDiv, zcn_I, iI_add, iI_sub, iI_mul, iI_neg, iI_lt, iI_le, iI_eq, iI_lt0, iI_le0, iI_gt0, iI_ge0, iI_eq0, p0, p1, p2, p3, g5]
        exact (by simp (disch := omega) only [true_or, or_true, eq_self, Option.some.injEq, Prod.mk.injEq, zall_0, zall_1, zall_2, zob_iff, zar_iff, zis_iff, zkIs_some, zkHas_some, iI_vp, z01_I, z01_bz, zch_I, true_and, and_true, or_false, false_or, and_self, upI_same, upL_same, upI_ne, upL_ne, iI_ixN, zI_mk, zL_mk, zP_mk, zK_mk, zN_mk, zwI_up, zwL_up, zg_some, Nat.reduceMod, Nat.reduceDiv, zcn_I, iI_add, iI_sub, iI_mul, iI_neg, iI_lt, iI_le, iI_eq, iI_lt0, iI_le0, iI_gt0, iI_ge0, iI_eq0, k0, p0, p1, p2, p3, k1, k2, k3, k4, g5] <;> omega)
      · simp (disch := omega) only [upI_same, upL_same, upI_ne, upL_ne, iI_ixN, zI_mk, zL_mk, zP_mk, zK_mk, zN_mk, zwI_up, zwL_up, zg_some, Nat.reduceMod, Nat.reduceDiv, zcn_I, iI_add, p0, p1, p2, p3, g5]
        obtain ⟨t1, t2, t3, t4, t5⟩ := hT
        refine h0 (fun i hi q => ?_) _ _ (fun b => if b = c then some (Rw f, v) else t b) ⟨fun a q => ?_, fun a q => ?_⟩ (fun b hb => ⟨fun q => ?_, fun k e q => ?_⟩) ⟨?_, fun i hi => ⟨?_, ?_⟩⟩ ⟨ceOK_set t1 hn hj hc.symm hp, by omega, ?_, fun i hi => ⟨?_, ?_, ?_⟩, fun b k e hb q => ?_⟩
        · obtain ⟨c', h1, h2⟩ := (t4 i hi).2.2
          rw [q] at h2
          obtain ⟨i', a1, a2, a3⟩ := t1 c' _ _ h1 h2
          rw [a2] at h2
          have := ce_uniq hp a3 h2 (Or.inl (by rw [hc]; exact hn))
          rw [← this, hc, hn] at h2
          cases h2
        · rw [upI_row (by omega), upI_row (by omega), upI_row (by omega)]
        · rw [upL_row (by omega), upL_row (by omega)]
        · have q : (if b = c then some (Rw f, v) else t b) = none := q
          by_cases cc : b = c
          · rw [if_pos cc] at q
            cases q
          · rw [if_neg cc] at q
            rw [upI_row (by omega), upI_row (by omega), upI_ne (by omega)]
            exact (hR b hb).1 q
        · have q : (if b = c then some (Rw f, v) else t b) = some (k, e) := q
          by_cases cc : b = c
          · rw [if_pos cc] at q
            cases q
            rw [cc]
            refine ⟨?_, ?_, hv⟩
            · rw [upI_row (by omega), upI_row (by omega), upI_same]
            · rw [upL_row (by omega), upL_same]
          · rw [if_neg cc] at q
            obtain ⟨b1, b2, b3⟩ := (hR b hb).2 k e q
            refine ⟨?_, ?_, b3⟩
            · rw [upI_row (by omega), upI_row (by omega), upI_ne (by omega)]
              exact b1
            · rw [upL_row (by omega), upL_ne (by omega)]
              exact b2
        · rw [upI_same]
          rfl
        · dsimp only
          by_cases cc : i = gc
          · rw [if_pos cc, cc, upL_same]
          · rw [if_neg cc, upL_ne (by omega), upL_row (by omega)]
            exact (hG.2 i (by omega)).1
        · dsimp only
          rw [upI_row (by omega)]
          by_cases cc : i = gc
          · rw [if_pos cc, cc, upI_same]
          · rw [if_neg cc, upI_ne (by omega), upI_row (by omega)]
            exact (hG.2 i (by omega)).2
        · rw [← t3]
          refine ct_set (i := c) hcl ?_ ?_ (fun b _ hb => ?_)
          · rw [hn]
            rfl
          · show (if c = c then some (Rw f, v) else t c).isSome = true
            rw [if_pos rfl]
            rfl
          · show (if b = c then some (Rw f, v) else t b).isSome = _
            rw [if_neg hb]
        · dsimp only
          split
          · exact hf
          · exact (t4 i (by omega)).1
        · dsimp only
          split
          · exact hv
          · exact (t4 i (by omega)).2.1
        · dsimp only
          by_cases cc : i = gc
          · exact ⟨c, hcl, by rw [if_pos rfl, if_pos cc, if_pos cc]⟩
          · obtain ⟨c', h1, h2⟩ := (t4 i (by omega)).2.2
            refine ⟨c', h1, ?_⟩
            rw [if_neg cc, if_neg cc, if_neg fun q => by rw [q, hn] at h2; cases h2]
            exact h2
        · have q : (if b = c then some (Rw f, v) else t b) = some (k, e) := q
          by_cases cc : b = c
          · rw [if_pos cc] at q
            cases q
            exact ⟨gc, by omega, by dsimp only; rw [if_pos rfl], by dsimp only; rw [if_pos rfl]⟩
          · rw [if_neg cc] at q
            obtain ⟨i, a1, a2, a3⟩ := t5 b k e hb q
            exact ⟨i, by omega, by dsimp only; rw [if_neg (by omega)]; exact a2, by dsimp only; rw [if_neg (by omega)]; exact a3⟩
    · obtain ⟨b1, b2, b3⟩ := (hR c hcl).2 _ e he
      refine zW.gbt [] rfl rfl rfl (by omega) ?_ ?_ (zW.gr [] rfl rfl rfl (by omega) trivial trivial ?_)
      · exact (by simp (disch := omega) only [true_or, or_true, eq_self, Option.some.injEq, Prod.mk.injEq, zall_0, zall_1, zall_2, zob_iff, zar_iff, zis_iff, zkIs_some, zkHas_some, iI_vp, z01_I, z01_bz, zch_I, true_and, and_true, or_false, false_or, and_self, upI_same, upL_same, upI_ne, upL_ne, iI_ixN, zI_mk, zL_mk, zP_mk, zK_mk, zN_mk, zwI_up, zwL_up, zg_some, Nat.reduceMod, Nat.reduceDiv, zcn_I, iI_add, iI_sub, iI_mul, iI_neg, iI_lt, iI_le, iI_eq, iI_lt0, iI_le0, iI_gt0, iI_ge0, iI_eq0, k0, p1, k2] <;> omega)
      · exact (by simp (disch := omega) only [eq_self, not_true_eq_false, not_false_eq_true, upI_same, upL_same, upI_ne, upL_ne, iI_ixN, zI_mk, zL_mk, zP_mk, zK_mk, zN_mk, zwI_up, zwL_up, zg_some, Nat.reduceMod, Nat.reduceDiv, zcn_I, iI_add, iI_sub, iI_mul, iI_neg, iI_lt, iI_le, iI_eq, iI_lt0, iI_le0, iI_gt0, iI_ge0, iI_eq0, p1, b1] <;> omega)
      · obtain ⟨i, a1, a2, a3⟩ := hT.2.2.2.2 c _ e hcl he
        exact h1 i a1 a2.symm
end SEEK
