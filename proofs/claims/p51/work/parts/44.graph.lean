/-! The graph over the memory: find, clear, reach, spread. -/
def GL (g : Nat) (R : zRt) : Prop := R.2.1 g = some (1, 0) ∧ R.1 g 0 = some (g + 1) ∧ R.1 g 1 = some (g + 2) ∧ R.1 g 2 = some (g + 11) ∧ R.1 g 3 = some (g + 15) ∧ R.1 g 4 = some (g + 16) ∧ R.2.1 (g + 1) = some (21, 800) ∧ R.2.1 (g + 2) = some (25, 8) ∧ R.2.1 (g + 11) = some (25, 3) ∧ R.2.1 (g + 15) = some (22, 3) ∧ R.2.1 (g + 16) = some (20, 800) ∧ (∀ i, i < 8 → R.1 (g + 2) i = some (g + 3 + i) ∧ R.2.1 (g + 3 + i) = some (20, 800)) ∧ ∀ i, i < 3 → R.1 (g + 11) i = some (g + 12 + i) ∧ R.2.1 (g + 12 + i) = some (20, 800)
theorem iushr1 {a : Int} (h0 : 0 ≤ a) (h1 : a < 2147483648) : (((iI a).toUInt32 >>> ((iI 1).toUInt32 &&& Int32.toUInt32 31)).toInt32) = iI (a / 2) := by
  obtain ⟨n, rfl⟩ : ∃ n : Nat, a = (n : Int) := ⟨a.toNat, by omega⟩
  have e2 : (n : Int) / 2 = ((n / 2 : Nat) : Int) := by omega
  rw [e2, ← nI_I, ← nI_I]
  show (UInt32.ofNat n >>> (UInt32.ofNat 1 &&& 31)).toInt32 = (UInt32.ofNat (n / 2)).toInt32
  refine congrArg UInt32.toInt32 (UInt32.toNat_inj.mp ?_)
  have e3 : (UInt32.ofNat 1 &&& 31).toNat % 32 = 1 := by decide
  rw [UInt32.toNat_shiftRight, e3, UInt32.toNat_ofNat', UInt32.toNat_ofNat', Nat.mod_eq_of_lt (by omega), Nat.mod_eq_of_lt (by omega), Nat.shiftRight_eq_div_pow]
theorem Rw_lt {f h : Nat → Nat} (hf : nb f) (hh : nb h) : Rw f < Rw h ↔ rwN f 10 < rwN h 10 := by
  have h1 := rwN_lt hf
  have h2 := rwN_lt hh
  unfold Rw
  rw [iL_lt (by omega) (by omega) (by omega) (by omega)]
  omega
section GRAPH
variable {d g : Nat} {I : Nat → Nat → Int32} {L : Nat → Nat → Int64} {R : zRt} {Q : zO → zM → Prop}
theorem fill_lp {a n : Nat} {x : Int32} (hd : 1 ≤ d) (hK : R.2.1 a = some (20, n)) (hn : n < 2147483647)
    (hQ : ∀ I', (∀ b, b ≠ a → I' b = I b) → (∀ j, j < n → I' a j = x) → Q (.inl none) (I', L, R)) :
    ∀ m i, i + m = n → ∀ (I1 : Nat → Nat → Int32) (y : Int32), (∀ b, b ≠ a → I1 b = I b) → (∀ j, j < i → I1 a j = x) → y = iI (i : Int) → zW 254 d 0 0 5 [some (zr (some a)), some (zi x), some (zi y), some (zi (iI (n : Int)))] [] (I1, L, R) Q
  | 0, i, hi, I1, y, f, k, e => by
    subst e
    obtain rfl : i = n := by omega
    refine zW.gbt [] rfl rfl rfl hd trivial ?_ (zW.gr [] rfl rfl rfl hd trivial trivial (hQ I1 f k))
    exact (by simp (disch := omega) only [eq_self, not_true_eq_false, not_false_eq_true, upI_same, upL_same, upI_ne, upL_ne, iI_ixN, zI_mk, zL_mk, zP_mk, zK_mk, zN_mk, zwI_up, zwL_up, zg_some, Nat.reduceMod, Nat.reduceDiv, zcn_I, iI_add, iI_sub, iI_mul, iI_neg, iI_lt, iI_le, iI_eq, iI_lt0, iI_le0, iI_gt0, iI_ge0, iI_eq0] <;> omega)
  | m + 1, i, hi, I1, y, f, k, e => by
    subst e
    refine zW.gbf [] rfl rfl rfl hd trivial ?_ (zW.go [5] rfl hd ?_ ?_)
    · exact (by simp (disch := omega) only [eq_self, not_true_eq_false, not_false_eq_true, upI_same, upL_same, upI_ne, upL_ne, iI_ixN, zI_mk, zL_mk, zP_mk, zK_mk, zN_mk, zwI_up, zwL_up, zg_some, Nat.reduceMod, Nat.reduceDiv, zcn_I, iI_add, iI_sub, iI_mul, iI_neg, iI_lt, iI_le, iI_eq, iI_lt0, iI_le0, iI_gt0, iI_ge0, iI_eq0] <;> omega)
    · exact (by simp (disch := omega) only [true_or, or_true, eq_self, Option.some.injEq, Prod.mk.injEq, zall_0, zall_1, zall_2, zob_iff, zar_iff, zis_iff, zkIs_some, zkHas_some, iI_vp, z01_I, z01_bz, zch_I, true_and, and_true, or_false, false_or, and_self, upI_same, upL_same, upI_ne, upL_ne, iI_ixN, zI_mk, zL_mk, zP_mk, zK_mk, zN_mk, zwI_up, zwL_up, zg_some, Nat.reduceMod, Nat.reduceDiv, zcn_I, iI_add, iI_sub, iI_mul, iI_neg, iI_lt, iI_le, iI_eq, iI_lt0, iI_le0, iI_gt0, iI_ge0, iI_eq0, hK] <;> omega)
    · simp (disch := omega) only [upI_same, upL_same, upI_ne, upL_ne, iI_ixN, zI_mk, zL_mk, zP_mk, zK_mk, zN_mk, zwI_up, zwL_up, zg_some, Nat.reduceMod, Nat.reduceDiv, zcn_I, iI_add, iI_sub, iI_mul, iI_neg, iI_lt, iI_le, iI_eq, iI_lt0, iI_le0, iI_gt0, iI_ge0, iI_eq0]
      refine fill_lp hd hK hn hQ m (i + 1) (by omega) _ _ (fun b q => ?_) (fun j q => ?_) ?_
      · rw [upI_row q]
        exact f b q
      · by_cases c : j = i
        · rw [c, upI_same]
        · rw [upI_ne (by omega)]
          exact k j (by omega)
      · exact (by simp (disch := omega) only [eq_self, not_true_eq_false, not_false_eq_true, upI_same, upL_same, upI_ne, upL_ne, iI_ixN, zI_mk, zL_mk, zP_mk, zK_mk, zN_mk, zwI_up, zwL_up, zg_some, Nat.reduceMod, Nat.reduceDiv, zcn_I, iI_add, iI_sub, iI_mul, iI_neg, iI_lt, iI_le, iI_eq, iI_lt0, iI_le0, iI_gt0, iI_ge0, iI_eq0] <;> omega)
theorem fill_ok {a n : Nat} {x : Int32} (hd : 1 ≤ d) (hK : R.2.1 a = some (20, n)) (hn : n < 2147483647)
    (hQ : ∀ I', (∀ b, b ≠ a → I' b = I b) → (∀ j, j < n → I' a j = x) → Q (.inl none) (I', L, R)) : zS 254 d [zr (some a), zi x] (I, L, R) Q := by
  refine zW.go [5] rfl hd ?_ ?_
  · exact ⟨0, by decide, ⟨a, n, rfl, hK⟩⟩
  · rw [zlenOf_some (M := (I, L, R)) (t := 20) (n := n) hK, nI_I]
    exact fill_lp hd hK hn hQ n 0 (by omega) I _ (fun _ _ => rfl) (fun j h => absurd h (Nat.not_lt_zero j)) rfl
theorem find_lp {G : (Nat → Nat) → Prop} {sz : Nat} {s : Nat → Nat} (hd : 1 ≤ d) (hL : GL g R) (hG : isG G) (hsz : szG G 10 = sz) (h800 : sz ≤ 800) (hI : I g 6 = iI (sz : Int)) (hS : ∀ i, i < sz → L (g + 1) i = Rw (stG G i)) (hs : pm 10 s)
    (h1 : G s → Q (.inl (some (zi (iI (numG G s 10 : Nat))))) (I, L, R)) (h0 : ¬ G s → Q (.inl (some (zi (iI (-1))))) (I, L, R)) :
    ∀ (n i : Nat), i + n = 800 → ∀ (lo hi : Int) (x y z : Int32) (v : Option zV), 0 ≤ lo → hi < (sz : Int) → -1 ≤ hi → hi - lo + 1 ≤ (n : Int) → (G s → lo ≤ (numG G s 10 : Int) ∧ (numG G s 10 : Int) ≤ hi) → x = iI lo → y = iI hi → z = iI (i : Int) →
      lo ≤ 800 → zW 13 d 0 0 13 [some (zr (some g)), some (zl (Rw s)), none, some (zi x), some (zi y), some (zi z), v] [] (I, L, R) Q
  | 0, i, hi0, lo, hi, x, y, z, v, b1, b2, b3, b4, b5, e1, e2, e3, b6 => by
    subst e1; subst e2; subst e3
    obtain rfl : i = 800 := by omega
    refine zW.gbt [] rfl rfl rfl hd trivial ?_ (zW.gr [] rfl rfl rfl hd trivial trivial ?_)
    · exact (by simp (disch := omega) only [eq_self, not_true_eq_false, not_false_eq_true, upI_same, upL_same, upI_ne, upL_ne, iI_ixN, zI_mk, zL_mk, zP_mk, zK_mk, zN_mk, zwI_up, zwL_up, zg_some, Nat.reduceMod, Nat.reduceDiv, zcn_I, iI_add, iI_sub, iI_mul, iI_neg, iI_lt, iI_le, iI_eq, iI_lt0, iI_le0, iI_gt0, iI_ge0, iI_eq0] <;> omega)
    · rw [zcn_I]
      refine h0 fun q => ?_
      have := b5 q
      omega
  | n + 1, i, hi0, lo, hi, x, y, z, v, b1, b2, b3, b4, b5, e1, e2, e3, b6 => by
    subst e1; subst e2; subst e3
    have hL' := hL
    obtain ⟨k0, p0, p1, p2, p3, p4, k1, k2, k3, k4, k5, k6, k7⟩ := hL'
    refine zW.gbf [] rfl rfl rfl hd trivial ?_ ?_
    · exact (by simp (disch := omega) only [eq_self, not_true_eq_false, not_false_eq_true, upI_same, upL_same, upI_ne, upL_ne, iI_ixN, zI_mk, zL_mk, zP_mk, zK_mk, zN_mk, zwI_up, zwL_up, zg_some, Nat.reduceMod, Nat.reduceDiv, zcn_I, iI_add, iI_sub, iI_mul, iI_neg, iI_lt, iI_le, iI_eq, iI_lt0, iI_le0, iI_gt0, iI_ge0, iI_eq0] <;> omega)
    by_cases hlh : hi < lo
    · refine zW.gbt [] rfl rfl rfl hd trivial ?_ (zW.gr [] rfl rfl rfl hd trivial trivial ?_)
      · exact (by simp (disch := omega) only [eq_self, not_true_eq_false, not_false_eq_true, upI_same, upL_same, upI_ne, upL_ne, iI_ixN, zI_mk, zL_mk, zP_mk, zK_mk, zN_mk, zwI_up, zwL_up, zg_some, Nat.reduceMod, Nat.reduceDiv, zcn_I, iI_add, iI_sub, iI_mul, iI_neg, iI_lt, iI_le, iI_eq, iI_lt0, iI_le0, iI_gt0, iI_ge0, iI_eq0] <;> omega)
      · rw [zcn_I]
        refine h0 fun q => ?_
        have := b5 q
        omega
    · obtain ⟨m, hm⟩ : ∃ m : Nat, (lo + hi) / 2 = (m : Int) := ⟨((lo + hi) / 2).toNat, by omega⟩
      have hmsz : m < sz := by omega
      obtain ⟨g1, g2⟩ := stG_sp hG (show m < szG G 10 by omega)
      have gp := hG.1 _ g1
      have hrd := hS m hmsz
      have mid : ((iI lo + iI hi).toUInt32 >>> ((zcn 1).toUInt32 &&& Int32.toUInt32 31)).toInt32 = iI (m : Int) := by
        rw [zcn_I, iI_add, iushr1 (by omega) (by omega), hm]
      refine zW.gbf [] rfl rfl rfl hd trivial ?_ (zW.gbt [] rfl rfl rfl hd trivial ?_ (zW.gb [] rfl rfl rfl hd ?_ (fun h => ?_) (fun h => ?_)))
      · exact (by simp (disch := omega) only [eq_self, not_true_eq_false, not_false_eq_true, upI_same, upL_same, upI_ne, upL_ne, iI_ixN, zI_mk, zL_mk, zP_mk, zK_mk, zN_mk, zwI_up, zwL_up, zg_some, Nat.reduceMod, Nat.reduceDiv, zcn_I, iI_add, iI_sub, iI_mul, iI_neg, iI_lt, iI_le, iI_eq, iI_lt0, iI_le0, iI_gt0, iI_ge0, iI_eq0] <;> omega)
      · rw [mid]
        exact (by simp (disch := omega) only [eq_self, not_true_eq_false, not_false_eq_true, upI_same, upL_same, upI_ne, upL_ne, iI_ixN, zI_mk, zL_mk, zP_mk, zK_mk, zN_mk, zwI_up, zwL_up, zg_some, Nat.reduceMod, Nat.reduceDiv, zcn_I, iI_add, iI_sub, iI_mul, iI_neg, iI_lt, iI_le, iI_eq, iI_lt0, iI_le0, iI_gt0, iI_ge0, iI_eq0] <;> omega)
      · rw [mid]
        exact (by simp (disch := omega) only [true_or, or_true, eq_self, Option.some.injEq, Prod.mk.injEq, zall_0, zall_1, zall_2, zob_iff, zar_iff, zis_iff, zkIs_some, zkHas_some, iI_vp, z01_I, z01_bz, zch_I, true_and, and_true, or_false, false_or, and_self, upI_same, upL_same, upI_ne, upL_ne, iI_ixN, zI_mk, zL_mk, zP_mk, zK_mk, zN_mk, zwI_up, zwL_up, zg_some, Nat.reduceMod, Nat.reduceDiv, zcn_I, iI_add, iI_sub, iI_mul, iI_neg, iI_lt, iI_le, iI_eq, iI_lt0, iI_le0, iI_gt0, iI_ge0, iI_eq0, k0, p0, k1] <;> omega)
      · rw [lg_cmp_eq] at h
        simp (disch := omega) only [upI_same, upL_same, upI_ne, upL_ne, iI_ixN, zI_mk, zL_mk, zP_mk, zK_mk, zN_mk, zwI_up, zwL_up, zg_some, Nat.reduceMod, Nat.reduceDiv, mid, p0, hrd] at h
        rw [Rw_pm gp hs] at h
        refine zW.gb [] rfl rfl rfl hd ?_ (fun h2 => ?_) (fun h2 => ?_)
        · rw [mid]
          exact (by simp (disch := omega) only [true_or, or_true, eq_self, Option.some.injEq, Prod.mk.injEq, zall_0, zall_1, zall_2, zob_iff, zar_iff, zis_iff, zkIs_some, zkHas_some, iI_vp, z01_I, z01_bz, zch_I, true_and, and_true, or_false, false_or, and_self, upI_same, upL_same, upI_ne, upL_ne, iI_ixN, zI_mk, zL_mk, zP_mk, zK_mk, zN_mk, zwI_up, zwL_up, zg_some, Nat.reduceMod, Nat.reduceDiv, zcn_I, iI_add, iI_sub, iI_mul, iI_neg, iI_lt, iI_le, iI_eq, iI_lt0, iI_le0, iI_gt0, iI_ge0, iI_eq0, k0, p0, k1] <;> omega)
        · rw [lg_cmp_ge] at h2
          simp (disch := omega) only [upI_same, upL_same, upI_ne, upL_ne, iI_ixN, zI_mk, zL_mk, zP_mk, zK_mk, zN_mk, zwI_up, zwL_up, zg_some, Nat.reduceMod, Nat.reduceDiv, mid, p0, hrd] at h2
          rw [mid]
          refine zW.go [13] rfl hd trivial ?_
          refine find_lp hd hL hG hsz h800 hI hS hs h1 h0 n (i + 1) (by omega) lo ((m : Int) - 1) _ _ _ _ b1 (by omega) (by omega) (by omega) (fun q => ?_) rfl ?_ ?_ b6
          · have a := b5 q
            refine ⟨a.1, ?_⟩
            by_cases c : (numG G s 10 : Int) ≤ (m : Int) - 1
            · exact c
            · have c2 : numG G (stG G m) 10 ≤ numG G s 10 := by omega
              have c3 : numG G (stG G m) 10 ≠ numG G s 10 := fun e => h (numG_inj hG g1 q e)
              have c4 := num_row hG g1 q (by omega)
              have c5 := (Rw_lt (pm_nb gp) (pm_nb hs)).mpr c4
              rw [Int64.lt_iff_toInt_lt] at c5
              rw [Int64.le_iff_toInt_le] at h2
              omega
          · exact (by simp (disch := omega) only [eq_self, not_true_eq_false, not_false_eq_true, upI_same, upL_same, upI_ne, upL_ne, iI_ixN, zI_mk, zL_mk, zP_mk, zK_mk, zN_mk, zwI_up, zwL_up, zg_some, Nat.reduceMod, Nat.reduceDiv, zcn_I, iI_add, iI_sub, iI_mul, iI_neg, iI_lt, iI_le, iI_eq, iI_lt0, iI_le0, iI_gt0, iI_ge0, iI_eq0] <;> omega)
          · exact (by simp (disch := omega) only [eq_self, not_true_eq_false, not_false_eq_true, upI_same, upL_same, upI_ne, upL_ne, iI_ixN, zI_mk, zL_mk, zP_mk, zK_mk, zN_mk, zwI_up, zwL_up, zg_some, Nat.reduceMod, Nat.reduceDiv, zcn_I, iI_add, iI_sub, iI_mul, iI_neg, iI_lt, iI_le, iI_eq, iI_lt0, iI_le0, iI_gt0, iI_ge0, iI_eq0] <;> omega)
        · rw [lg_cmp_ge] at h2
          simp (disch := omega) only [upI_same, upL_same, upI_ne, upL_ne, iI_ixN, zI_mk, zL_mk, zP_mk, zK_mk, zN_mk, zwI_up, zwL_up, zg_some, Nat.reduceMod, Nat.reduceDiv, mid, p0, hrd] at h2
          rw [mid]
          refine zW.go [13] rfl hd trivial ?_
          refine find_lp hd hL hG hsz h800 hI hS hs h1 h0 n (i + 1) (by omega) ((m : Int) + 1) hi _ _ _ _ (by omega) b2 b3 (by omega) (fun q => ?_) ?_ rfl ?_ (by omega)
          · have a := b5 q
            refine ⟨?_, a.2⟩
            by_cases c : (m : Int) + 1 ≤ (numG G s 10 : Int)
            · exact c
            · have c2 : numG G s 10 ≤ numG G (stG G m) 10 := by omega
              have c3 : numG G (stG G m) 10 ≠ numG G s 10 := fun e => h (numG_inj hG g1 q e)
              have c4 := num_row hG q g1 (by omega)
              have c5 := (Rw_lt (pm_nb hs) (pm_nb gp)).mpr c4
              rw [Int64.lt_iff_toInt_lt] at c5
              rw [Int64.le_iff_toInt_le] at h2
              omega
          · exact (by simp (disch := omega) only [eq_self, not_true_eq_false, not_false_eq_true, upI_same, upL_same, upI_ne, upL_ne, iI_ixN, zI_mk, zL_mk, zP_mk, zK_mk, zN_mk, zwI_up, zwL_up, zg_some, Nat.reduceMod, Nat.reduceDiv, zcn_I, iI_add, iI_sub, iI_mul, iI_neg, iI_lt, iI_le, iI_eq, iI_lt0, iI_le0, iI_gt0, iI_ge0, iI_eq0] <;> omega)
          · exact (by simp (disch := omega) only [eq_self, not_true_eq_false, not_false_eq_true, upI_same, upL_same, upI_ne, upL_ne, iI_ixN, zI_mk, zL_mk, zP_mk, zK_mk, zN_mk, zwI_up, zwL_up, zg_some, Nat.reduceMod, Nat.reduceDiv, zcn_I, iI_add, iI_sub, iI_mul, iI_neg, iI_lt, iI_le, iI_eq, iI_lt0, iI_le0, iI_gt0, iI_ge0, iI_eq0] <;> omega)
      · have h := Classical.not_not.mp h
        rw [lg_cmp_eq] at h
        simp (disch := omega) only [upI_same, upL_same, upI_ne, upL_ne, iI_ixN, zI_mk, zL_mk, zP_mk, zK_mk, zN_mk, zwI_up, zwL_up, zg_some, Nat.reduceMod, Nat.reduceDiv, mid, p0, hrd] at h
        rw [Rw_pm gp hs] at h
        rw [mid]
        refine zW.gr [] rfl rfl rfl hd trivial trivial ?_
        rw [← h, g2] at h1
        exact h1 g1
theorem find_ok {G : (Nat → Nat) → Prop} {sz : Nat} {s : Nat → Nat} {o : Int64} (hd : 1 ≤ d) (hL : GL g R) (hG : isG G) (hsz : szG G 10 = sz) (h800 : sz ≤ 800) (hI : I g 6 = iI (sz : Int)) (hS : ∀ i, i < sz → L (g + 1) i = Rw (stG G i)) (hs : pm 10 s) (e : o = Rw s)
    (h1 : G s → Q (.inl (some (zi (iI (numG G s 10 : Nat))))) (I, L, R)) (h0 : ¬ G s → Q (.inl (some (zi (iI (-1))))) (I, L, R)) : zS 13 d [zr (some g), zl o] (I, L, R) Q := by
  subst e
  have hL' := hL
  obtain ⟨k0, p0, p1, p2, p3, p4, k1, k2, k3, k4, k5, k6, k7⟩ := hL'
  refine zW.go [13] rfl hd ?_ ?_
  · exact (by simp (disch := omega) only [true_or, or_true, eq_self, Option.some.injEq, Prod.mk.injEq, zall_0, zall_1, zall_2, zob_iff, zar_iff, zis_iff, zkIs_some, zkHas_some, iI_vp, z01_I, z01_bz, zch_I, true_and, and_true, or_false, false_or, and_self, upI_same, upL_same, upI_ne, upL_ne, iI_ixN, zI_mk, zL_mk, zP_mk, zK_mk, zN_mk, zwI_up, zwL_up, zg_some, Nat.reduceMod, Nat.reduceDiv, zcn_I, iI_add, iI_sub, iI_mul, iI_neg, iI_lt, iI_le, iI_eq, iI_lt0, iI_le0, iI_gt0, iI_ge0, iI_eq0, k0] <;> omega)
  · have hp := szG_pos hG 10
    simp (disch := omega) only [upI_same, upL_same, upI_ne, upL_ne, iI_ixN, zI_mk, zL_mk, zP_mk, zK_mk, zN_mk, zwI_up, zwL_up, zg_some, Nat.reduceMod, Nat.reduceDiv, zcn_I, iI_sub, hI]
    refine find_lp hd hL hG hsz h800 hI hS hs h1 h0 800 0 rfl 0 ((sz : Int) - 1) _ _ _ _ (by omega) (by omega) (by omega) (by omega) (fun q => ?_) rfl rfl rfl (by omega)
    have := numG_lt hG q 10 (Nat.le_refl _)
    omega
/-- depths of a count and the queue, as they stand -/
def bM (g k : Nat) (I : Nat → Nat → Int32) (sz : Nat) (b : bSt) : Prop := (∀ s, s < sz → I (g + 12 + k) s = iI (b.1 s)) ∧ hl (I (g + 16)) b.2 ∧ I g 5 = iI (b.2.length : Int)
def mfr (g k : Nat) (I I' : Nat → Nat → Int32) : Prop := (∀ b, b ≠ g → b ≠ g + 12 + k → b ≠ g + 16 → I' b = I b) ∧ ∀ j, j ≠ 5 → I' g j = I g j
theorem mfr_rf (g k : Nat) (I : Nat → Nat → Int32) : mfr g k I I := ⟨fun _ _ _ _ => rfl, fun _ _ => rfl⟩
theorem mfr_tr {g k : Nat} {I I1 I2 : Nat → Nat → Int32} (h1 : mfr g k I I1) (h2 : mfr g k I1 I2) : mfr g k I I2 := ⟨fun b x y z => (h2.1 b x y z).trans (h1.1 b x y z), fun j x => (h2.2 j x).trans (h1.2 j x)⟩
/-- the neighbours, as they stand -/
def gN (g : Nat) (I : Nat → Nat → Int32) (sz ac : Nat) (nx : Nat → Nat → Nat) : Prop := sz ≤ 800 ∧ ac ≤ 8 ∧ I g 6 = iI (sz : Int) ∧ I g 7 = iI (ac : Int) ∧ (∀ a s, a < ac → s < sz → I (g + 3 + a) s = iI (nx a s : Int)) ∧ ∀ a s, a < ac → s < sz → nx a s < sz
theorem gN_fr {k sz ac : Nat} {nx : Nat → Nat → Nat} {I' : Nat → Nat → Int32} (hk : k < 3) (h : gN g I sz ac nx) (f : mfr g k I I') : gN g I' sz ac nx := by
  obtain ⟨h1, h2, h3, h4, h5, h6⟩ := h
  exact ⟨h1, h2, (f.2 6 (by decide)).trans h3, (f.2 7 (by decide)).trans h4, fun a s ha hs => (congrFun (f.1 (g + 3 + a) (by omega) (by omega) (by omega)) s).trans (h5 a s ha hs), h6⟩
theorem clear_ok {k sz : Nat} {x : Int32} (hd : 2 ≤ d) (hL : GL g R) (hk : k < 3) (e : x = iI (k : Int)) (h800 : sz ≤ 800)
    (hQ : ∀ I', mfr g k I I' → bM g k I' sz (bS (fun _ => false) 0) → Q (.inl none) (I', L, R)) : zS 16 d [zr (some g), zi x] (I, L, R) Q := by
  subst e
  have hL' := hL
  obtain ⟨k0, p0, p1, p2, p3, p4, k1, k2, k3, k4, k5, k6, k7⟩ := hL'
  obtain ⟨p7, k8⟩ := k7 k hk
  refine zW.gz [] rfl rfl rfl hd ?_ trivial rfl rfl (Nat.le_refl _) (Nat.le_refl _) ?_
  · exact (by simp (disch := omega) only [true_or, or_true, eq_self, Option.some.injEq, Prod.mk.injEq, zall_0, zall_1, zall_2, zob_iff, zar_iff, zis_iff, zkIs_some, zkHas_some, iI_vp, z01_I, z01_bz, zch_I, true_and, and_true, or_false, false_or, and_self, upI_same, upL_same, upI_ne, upL_ne, iI_ixN, zI_mk, zL_mk, zP_mk, zK_mk, zN_mk, zwI_up, zwL_up, zg_some, Nat.reduceMod, Nat.reduceDiv, zcn_I, iI_add, iI_sub, iI_mul, iI_neg, iI_lt, iI_le, iI_eq, iI_lt0, iI_le0, iI_gt0, iI_ge0, iI_eq0, k0, p2, k3] <;> omega)
  · simp (disch := omega) only [upI_same, upL_same, upI_ne, upL_ne, iI_ixN, zI_mk, zL_mk, zP_mk, zK_mk, zN_mk, zwI_up, zwL_up, zg_some, Nat.reduceMod, Nat.reduceDiv, zcn_I, iI_add, iI_sub, iI_mul, iI_neg, iI_lt, iI_le, iI_eq, iI_lt0, iI_le0, iI_gt0, iI_ge0, iI_eq0, p2, p7, zcn_I]
    refine fill_ok (by omega) k8 (by decide) (fun I' f r => ?_)
    refine zW.gr [] rfl rfl rfl (by omega) ?_ trivial ?_
    · exact (by simp (disch := omega) only [true_or, or_true, eq_self, Option.some.injEq, Prod.mk.injEq, zall_0, zall_1, zall_2, zob_iff, zar_iff, zis_iff, zkIs_some, zkHas_some, iI_vp, z01_I, z01_bz, zch_I, true_and, and_true, or_false, false_or, and_self, upI_same, upL_same, upI_ne, upL_ne, iI_ixN, zI_mk, zL_mk, zP_mk, zK_mk, zN_mk, zwI_up, zwL_up, zg_some, Nat.reduceMod, Nat.reduceDiv, zcn_I, iI_add, iI_sub, iI_mul, iI_neg, iI_lt, iI_le, iI_eq, iI_lt0, iI_le0, iI_gt0, iI_ge0, iI_eq0, k0] <;> omega)
    · simp (disch := omega) only [upI_same, upL_same, upI_ne, upL_ne, iI_ixN, zI_mk, zL_mk, zP_mk, zK_mk, zN_mk, zwI_up, zwL_up, zg_some, Nat.reduceMod, Nat.reduceDiv, zcn_I, iI_add, iI_sub, iI_mul, iI_neg, iI_lt, iI_le, iI_eq, iI_lt0, iI_le0, iI_gt0, iI_ge0, iI_eq0, zcn_I]
      refine hQ _ ⟨fun b q1 q2 q3 => ?_, fun j q => ?_⟩ ⟨fun s hs => ?_, fun i hi => absurd hi (Nat.not_lt_zero i), ?_⟩
      · rw [upI_row q1]
        exact f b q2
      · rw [upI_ne (by omega)]
        exact congrFun (f g (by omega)) j
      · rw [upI_row (by omega)]
        exact r s (by omega)
      · rw [upI_same]
        rfl
theorem reach_ok {k sz s : Nat} {v : Int} {b : bSt} {x y z : Int32} (hd : 1 ≤ d) (hL : GL g R) (hk : k < 3) (h800 : sz ≤ 800) (hI6 : I g 6 = iI (sz : Int)) (e1 : x = iI (k : Int)) (e2 : y = iI (s : Int)) (e3 : z = iI v) (hs : s < sz) (hb : bI sz b) (hm : bM g k I sz b)
    (hQ : ∀ I', mfr g k I I' → bM g k I' sz (bR s v b) → Q (.inl none) (I', L, R)) : zS 17 d [zr (some g), zi x, zi y, zi z] (I, L, R) Q := by
  subst e1; subst e2; subst e3
  have hL' := hL
  obtain ⟨k0, p0, p1, p2, p3, p4, k1, k2, k3, k4, k5, k6, k7⟩ := hL'
  obtain ⟨p7, k8⟩ := k7 k hk
  obtain ⟨m1, m2, m3⟩ := hm
  have rg := bI_rg hb hs
  have ms := m1 s hs
  by_cases hn : b.1 s < 0
  · have hlt := bI_lt hb hs hn
    refine zW.gbf [] rfl rfl rfl hd trivial ?_ (zW.gbf [] rfl rfl rfl hd ?_ ?_ (zW.gbf [] rfl rfl rfl hd ?_ ?_ (zW.gbf [] rfl rfl rfl hd ?_ ?_ (zW.gr [] rfl rfl rfl hd ?_ trivial ?_))))
    · exact (by simp (disch := omega) only [eq_self, not_true_eq_false, not_false_eq_true, upI_same, upL_same, upI_ne, upL_ne, iI_ixN, zI_mk, zL_mk, zP_mk, zK_mk, zN_mk, zwI_up, zwL_up, zg_some, Nat.reduceMod, Nat.reduceDiv, zcn_I, iI_add, iI_sub, iI_mul, iI_neg, iI_lt, iI_le, iI_eq, iI_lt0, iI_le0, iI_gt0, iI_ge0, iI_eq0] <;> omega)
    · exact (by simp (disch := omega) only [true_or, or_true, eq_self, Option.some.injEq, Prod.mk.injEq, zall_0, zall_1, zall_2, zob_iff, zar_iff, zis_iff, zkIs_some, zkHas_some, iI_vp, z01_I, z01_bz, zch_I, true_and, and_true, or_false, false_or, and_self, upI_same, upL_same, upI_ne, upL_ne, iI_ixN, zI_mk, zL_mk, zP_mk, zK_mk, zN_mk, zwI_up, zwL_up, zg_some, Nat.reduceMod, Nat.reduceDiv, zcn_I, iI_add, iI_sub, iI_mul, iI_neg, iI_lt, iI_le, iI_eq, iI_lt0, iI_le0, iI_gt0, iI_ge0, iI_eq0, k0] <;> omega)
    · exact (by simp (disch := omega) only [eq_self, not_true_eq_false, not_false_eq_true, upI_same, upL_same, upI_ne, upL_ne, iI_ixN, zI_mk, zL_mk, zP_mk, zK_mk, zN_mk, zwI_up, zwL_up, zg_some, Nat.reduceMod, Nat.reduceDiv, zcn_I, iI_add, iI_sub, iI_mul, iI_neg, iI_lt, iI_le, iI_eq, iI_lt0, iI_le0, iI_gt0, iI_ge0, iI_eq0, hI6] <;> omega)
    · exact (by simp (disch := omega) only [true_or, or_true, eq_self, Option.some.injEq, Prod.mk.injEq, zall_0, zall_1, zall_2, zob_iff, zar_iff, zis_iff, zkIs_some, zkHas_some, iI_vp, z01_I, z01_bz, zch_I, true_and, and_true, or_false, false_or, and_self, upI_same, upL_same, upI_ne, upL_ne, iI_ixN, zI_mk, zL_mk, zP_mk, zK_mk, zN_mk, zwI_up, zwL_up, zg_some, Nat.reduceMod, Nat.reduceDiv, zcn_I, iI_add, iI_sub, iI_mul, iI_neg, iI_lt, iI_le, iI_eq, iI_lt0, iI_le0, iI_gt0, iI_ge0, iI_eq0, k0] <;> omega)
    · exact (by simp (disch := omega) only [eq_self, not_true_eq_false, not_false_eq_true, upI_same, upL_same, upI_ne, upL_ne, iI_ixN, zI_mk, zL_mk, zP_mk, zK_mk, zN_mk, zwI_up, zwL_up, zg_some, Nat.reduceMod, Nat.reduceDiv, zcn_I, iI_add, iI_sub, iI_mul, iI_neg, iI_lt, iI_le, iI_eq, iI_lt0, iI_le0, iI_gt0, iI_ge0, iI_eq0, m3] <;> omega)
    · simp (disch := omega) only [upI_same, upL_same, upI_ne, upL_ne, iI_ixN, zI_mk, zL_mk, zP_mk, zK_mk, zN_mk, zwI_up, zwL_up, zg_some, Nat.reduceMod, Nat.reduceDiv, zcn_I, iI_add, iI_sub, iI_mul, iI_neg, iI_lt, iI_le, iI_eq, iI_lt0, iI_le0, iI_gt0, iI_ge0, iI_eq0, p2, p7]
      exact (by simp (disch := omega) only [true_or, or_true, eq_self, Option.some.injEq, Prod.mk.injEq, zall_0, zall_1, zall_2, zob_iff, zar_iff, zis_iff, zkIs_some, zkHas_some, iI_vp, z01_I, z01_bz, zch_I, true_and, and_true, or_false, false_or, and_self, upI_same, upL_same, upI_ne, upL_ne, iI_ixN, zI_mk, zL_mk, zP_mk, zK_mk, zN_mk, zwI_up, zwL_up, zg_some, Nat.reduceMod, Nat.reduceDiv, zcn_I, iI_add, iI_sub, iI_mul, iI_neg, iI_lt, iI_le, iI_eq, iI_lt0, iI_le0, iI_gt0, iI_ge0, iI_eq0, k0, p2, k3, p7, k8] <;> omega)
    · exact (by simp (disch := omega) only [eq_self, not_true_eq_false, not_false_eq_true, upI_same, upL_same, upI_ne, upL_ne, iI_ixN, zI_mk, zL_mk, zP_mk, zK_mk, zN_mk, zwI_up, zwL_up, zg_some, Nat.reduceMod, Nat.reduceDiv, zcn_I, iI_add, iI_sub, iI_mul, iI_neg, iI_lt, iI_le, iI_eq, iI_lt0, iI_le0, iI_gt0, iI_ge0, iI_eq0, p2, p7, ms] <;> omega)
    · simp (disch := omega) only [upI_same, upL_same, upI_ne, upL_ne, iI_ixN, zI_mk, zL_mk, zP_mk, zK_mk, zN_mk, zwI_up, zwL_up, zg_some, Nat.reduceMod, Nat.reduceDiv, zcn_I, iI_add, iI_sub, iI_mul, iI_neg, iI_lt, iI_le, iI_eq, iI_lt0, iI_le0, iI_gt0, iI_ge0, iI_eq0, p2, p7, p4, m3]
      exact (by simp (disch := omega) only [true_or, or_true, eq_self, Option.some.injEq, Prod.mk.injEq, zall_0, zall_1, zall_2, zob_iff, zar_iff, zis_iff, zkIs_some, zkHas_some, iI_vp, z01_I, z01_bz, zch_I, true_and, and_true, or_false, false_or, and_self, upI_same, upL_same, upI_ne, upL_ne, iI_ixN, zI_mk, zL_mk, zP_mk, zK_mk, zN_mk, zwI_up, zwL_up, zg_some, Nat.reduceMod, Nat.reduceDiv, zcn_I, iI_add, iI_sub, iI_mul, iI_neg, iI_lt, iI_le, iI_eq, iI_lt0, iI_le0, iI_gt0, iI_ge0, iI_eq0, k0, p2, k3, p7, k8, p4, k5, m3] <;> omega)
    · simp (disch := omega) only [upI_same, upL_same, upI_ne, upL_ne, iI_ixN, zI_mk, zL_mk, zP_mk, zK_mk, zN_mk, zwI_up, zwL_up, zg_some, Nat.reduceMod, Nat.reduceDiv, zcn_I, iI_add, p2, p7, p4, m3]
      refine hQ _ ⟨fun b q1 q2 q3 => ?_, fun j q => ?_⟩ ?_
      · rw [upI_row q1, upI_row q3, upI_row q2]
      · rw [upI_ne (by omega), upI_ne (by omega), upI_ne (by omega)]
      · unfold bR
        rw [if_pos hn]
        refine ⟨fun t ht => ?_, ?_, ?_⟩
        · rw [upI_row (by omega), upI_row (by omega)]
          show _ = iI (if t = s then v else b.1 t)
          by_cases c : t = s
          · rw [c, upI_same, if_pos rfl]
          · rw [upI_ne (by omega), if_neg c]
            exact m1 t ht
        · rw [upI_row (by omega)]
          exact hl_snoc (by rw [upI_row (by omega)]; exact m2)
        · rw [upI_same]
          show _ = iI ((b.2 ++ [s]).length : Int)
          rw [List.length_append]
          rfl
  · have hle := bI_le hb
    have hend : bR s v b = b := if_neg hn
    rw [hend] at hQ
    have fin : ∀ st : Nat, zW 17 d 0 0 62 [some (zr (some g)), some (zi (iI (k : Int))), some (zi (iI (s : Int))), some (zi (iI v))] [] (I, L, R) Q := fun _ => zW.gr [] rfl rfl rfl hd trivial trivial (hQ I (mfr_rf _ _ _) ⟨m1, m2, m3⟩)
    refine zW.gbf [] rfl rfl rfl hd trivial ?_ (zW.gbf [] rfl rfl rfl hd ?_ ?_ (zW.gb [] rfl rfl rfl hd ?_ (fun h => fin 0) (fun h => zW.gbt [] rfl rfl rfl hd ?_ ?_ (fin 0))))
    · exact (by simp (disch := omega) only [eq_self, not_true_eq_false, not_false_eq_true, upI_same, upL_same, upI_ne, upL_ne, iI_ixN, zI_mk, zL_mk, zP_mk, zK_mk, zN_mk, zwI_up, zwL_up, zg_some, Nat.reduceMod, Nat.reduceDiv, zcn_I, iI_add, iI_sub, iI_mul, iI_neg, iI_lt, iI_le, iI_eq, iI_lt0, iI_le0, iI_gt0, iI_ge0, iI_eq0] <;> omega)
    · exact (by simp (disch := omega) only [true_or, or_true, eq_self, Option.some.injEq, Prod.mk.injEq, zall_0, zall_1, zall_2, zob_iff, zar_iff, zis_iff, zkIs_some, zkHas_some, iI_vp, z01_I, z01_bz, zch_I, true_and, and_true, or_false, false_or, and_self, upI_same, upL_same, upI_ne, upL_ne, iI_ixN, zI_mk, zL_mk, zP_mk, zK_mk, zN_mk, zwI_up, zwL_up, zg_some, Nat.reduceMod, Nat.reduceDiv, zcn_I, iI_add, iI_sub, iI_mul, iI_neg, iI_lt, iI_le, iI_eq, iI_lt0, iI_le0, iI_gt0, iI_ge0, iI_eq0, k0] <;> omega)
    · exact (by simp (disch := omega) only [eq_self, not_true_eq_false, not_false_eq_true, upI_same, upL_same, upI_ne, upL_ne, iI_ixN, zI_mk, zL_mk, zP_mk, zK_mk, zN_mk, zwI_up, zwL_up, zg_some, Nat.reduceMod, Nat.reduceDiv, zcn_I, iI_add, iI_sub, iI_mul, iI_neg, iI_lt, iI_le, iI_eq, iI_lt0, iI_le0, iI_gt0, iI_ge0, iI_eq0, hI6] <;> omega)
    · exact (by simp (disch := omega) only [true_or, or_true, eq_self, Option.some.injEq, Prod.mk.injEq, zall_0, zall_1, zall_2, zob_iff, zar_iff, zis_iff, zkIs_some, zkHas_some, iI_vp, z01_I, z01_bz, zch_I, true_and, and_true, or_false, false_or, and_self, upI_same, upL_same, upI_ne, upL_ne, iI_ixN, zI_mk, zL_mk, zP_mk, zK_mk, zN_mk, zwI_up, zwL_up, zg_some, Nat.reduceMod, Nat.reduceDiv, zcn_I, iI_add, iI_sub, iI_mul, iI_neg, iI_lt, iI_le, iI_eq, iI_lt0, iI_le0, iI_gt0, iI_ge0, iI_eq0, k0] <;> omega)
    · simp (disch := omega) only [upI_same, upL_same, upI_ne, upL_ne, iI_ixN, zI_mk, zL_mk, zP_mk, zK_mk, zN_mk, zwI_up, zwL_up, zg_some, Nat.reduceMod, Nat.reduceDiv, zcn_I, iI_add, iI_sub, iI_mul, iI_neg, iI_lt, iI_le, iI_eq, iI_lt0, iI_le0, iI_gt0, iI_ge0, iI_eq0, p2, p7]
      exact (by simp (disch := omega) only [true_or, or_true, eq_self, Option.some.injEq, Prod.mk.injEq, zall_0, zall_1, zall_2, zob_iff, zar_iff, zis_iff, zkIs_some, zkHas_some, iI_vp, z01_I, z01_bz, zch_I, true_and, and_true, or_false, false_or, and_self, upI_same, upL_same, upI_ne, upL_ne, iI_ixN, zI_mk, zL_mk, zP_mk, zK_mk, zN_mk, zwI_up, zwL_up, zg_some, Nat.reduceMod, Nat.reduceDiv, zcn_I, iI_add, iI_sub, iI_mul, iI_neg, iI_lt, iI_le, iI_eq, iI_lt0, iI_le0, iI_gt0, iI_ge0, iI_eq0, k0, p2, k3, p7, k8] <;> omega)
    · exact (by simp (disch := omega) only [eq_self, not_true_eq_false, not_false_eq_true, upI_same, upL_same, upI_ne, upL_ne, iI_ixN, zI_mk, zL_mk, zP_mk, zK_mk, zN_mk, zwI_up, zwL_up, zg_some, Nat.reduceMod, Nat.reduceDiv, zcn_I, iI_add, iI_sub, iI_mul, iI_neg, iI_lt, iI_le, iI_eq, iI_lt0, iI_le0, iI_gt0, iI_ge0, iI_eq0, p2, p7, ms] <;> omega)
theorem once_ok {k : Nat} {x : Int32} {M : zM} (hd : 1 ≤ d) (hk : k < 3) (e : x = iI (k : Int)) (hQ : Q (.inl (some (zi (iI ((if k = 1 then 8 else 1 : Nat) : Int))))) M) : zS 20 d [zi x] M Q := by
  subst e
  by_cases h : k = 1
  · rw [if_pos h] at hQ
    refine zW.gbf [] rfl rfl rfl hd trivial ?_ (zW.gr [] rfl rfl rfl hd trivial trivial ?_)
    · exact (by simp (disch := omega) only [eq_self, not_true_eq_false, not_false_eq_true, upI_same, upL_same, upI_ne, upL_ne, iI_ixN, zI_mk, zL_mk, zP_mk, zK_mk, zN_mk, zwI_up, zwL_up, zg_some, Nat.reduceMod, Nat.reduceDiv, zcn_I, iI_add, iI_sub, iI_mul, iI_neg, iI_lt, iI_le, iI_eq, iI_lt0, iI_le0, iI_gt0, iI_ge0, iI_eq0] <;> omega)
    · rw [zcn_I]
      exact hQ
  · rw [if_neg h] at hQ
    refine zW.gbt [] rfl rfl rfl hd trivial ?_ (zW.gr [] rfl rfl rfl hd trivial trivial ?_)
    · exact (by simp (disch := omega) only [eq_self, not_true_eq_false, not_false_eq_true, upI_same, upL_same, upI_ne, upL_ne, iI_ixN, zI_mk, zL_mk, zP_mk, zK_mk, zN_mk, zwI_up, zwL_up, zg_some, Nat.reduceMod, Nat.reduceDiv, zcn_I, iI_add, iI_sub, iI_mul, iI_neg, iI_lt, iI_le, iI_eq, iI_lt0, iI_le0, iI_gt0, iI_ge0, iI_eq0] <;> omega)
    · rw [zcn_I]
      exact hQ
end GRAPH
