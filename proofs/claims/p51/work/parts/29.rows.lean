/-! Rows of ten numbers in a long. -/
def rwN (f : Nat → Nat) : Nat → Nat
  | 0 => 0
  | n + 1 => rwN f n * 16 + f n
def Rw (f : Nat → Nat) : Int64 := iL (rwN f 10)
theorem rwN_lt {f : Nat → Nat} : ∀ {n : Nat}, (∀ p, p < n → f p < 16) → rwN f n < 16 ^ n
  | 0, _ => Nat.one_pos
  | n + 1, h => by
    have h1 := rwN_lt (n := n) (fun p q => h p (by omega))
    have h2 := h n (by omega)
    show rwN f n * 16 + f n < 16 ^ (n + 1)
    rw [Nat.pow_succ]
    omega
theorem rwN_dig {f : Nat → Nat} : ∀ {n p : Nat}, (∀ q, q < n → f q < 16) → p < n → rwN f n / 16 ^ (n - 1 - p) % 16 = f p
  | 0, p, _, h => by omega
  | n + 1, p, hf, h => by
    have h2 := hf n (by omega)
    show (rwN f n * 16 + f n) / 16 ^ (n - p) % 16 = f p
    by_cases e : p = n
    · subst e
      rw [Nat.sub_self, Nat.pow_zero]
      omega
    · have h1 := rwN_dig (n := n) (p := p) (fun q k => hf q (by omega)) (by omega)
      have e1 : n - p = (n - 1 - p) + 1 := by omega
      rw [e1, Nat.pow_succ, Nat.mul_comm (16 ^ (n - 1 - p)) 16, ← Nat.div_div_eq_div_mul]
      have e2 : (rwN f n * 16 + f n) / 16 = rwN f n := by omega
      rw [e2]
      exact h1
theorem lushr_N {n : Nat} {s : Int} (h0 : 0 ≤ s) (hs : s < 64) (hn : n < 18446744073709551616) : ((iL (n : Int)).toUInt64 >>> ((iI s).toInt64.toUInt64 &&& Int64.toUInt64 63)).toInt64 = iL ((n / 2 ^ s.toNat : Nat) : Int) := by
  obtain ⟨k, rfl⟩ : ∃ k : Nat, s = (k : Int) := ⟨s.toNat, by omega⟩
  rw [iI_L (by omega) (by omega), ← lN_L, ← lN_L, ← lN_L]
  show (UInt64.ofNat n >>> (UInt64.ofNat k &&& 63)).toInt64 = (UInt64.ofNat (n / 2 ^ (k : Int).toNat)).toInt64
  refine congrArg UInt64.toInt64 (UInt64.toNat_inj.mp ?_)
  have e1 : k &&& 63 = k % 64 := Nat.and_two_pow_sub_one_eq_mod k 6
  have e2 : (n / 2 ^ k) % 18446744073709551616 = n / 2 ^ k := Nat.mod_eq_of_lt (Nat.lt_of_le_of_lt (Nat.div_le_self _ _) hn)
  have e3 : k % 18446744073709551616 = k := Nat.mod_eq_of_lt (by omega)
  have e4 : n % 18446744073709551616 = n := Nat.mod_eq_of_lt hn
  have e5 : k % 64 % 64 = k := by omega
  simp only [UInt64.toNat_shiftRight, UInt64.toNat_and, UInt64.toNat_ofNat', Int.toNat_natCast, e3, e4]
  show n >>> ((k &&& 63) % 64) = n / 2 ^ k % 18446744073709551616
  rw [e1, e5, e2, Nat.shiftRight_eq_div_pow]
theorem iI_and15 (n : Nat) : iI (n : Int) &&& iI 15 = iI ((n % 16 : Nat) : Int) := by
  have e0 : iI 15 = nI 15 := (nI_I 15).symm
  rw [← nI_I, ← nI_I, e0]
  refine Int32.toBitVec_inj.mp ?_
  show BitVec.ofNat 32 n &&& BitVec.ofNat 32 15 = BitVec.ofNat 32 (n % 16)
  refine BitVec.eq_of_toNat_eq ?_
  simp only [BitVec.toNat_and, BitVec.toNat_ofNat]
  show n % 4294967296 &&& 15 = n % 16 % 4294967296
  have e1 : n % 4294967296 &&& 15 = n % 4294967296 % 16 := Nat.and_two_pow_sub_one_eq_mod _ 4
  rw [e1]
  omega
/-- what a row says: all below 16 -/
def nb (f : Nat → Nat) : Prop := ∀ p, p < 10 → f p < 16
theorem at_val {f : Nat → Nat} {p : Nat} (hf : nb f) (hp : p < 10) : (((Rw f).toUInt64 >>> ((iI (4 * (9 - (p : Int)))).toInt64.toUInt64 &&& Int64.toUInt64 63)).toInt64).toInt32 &&& iI 15 = iI (f p : Int) := by
  have h1 := rwN_lt (n := 10) hf
  unfold Rw
  rw [lushr_N (by omega) (by omega) (by omega), iL_I, iI_and15]
  have e : ((4 * (9 - (p : Int))).toNat) = 4 * (10 - 1 - p) := by omega
  rw [e, Nat.pow_mul]
  exact iI_cg (congrArg Nat.cast (rwN_dig hf hp))
theorem at_ok {d : Nat} {f : Nat → Nat} {p : Nat} {o : Int64} {x : Int32} {M : zM} {Q : zO → zM → Prop} (hd : 1 ≤ d) (hf : nb f) (hp : p < 10) (e1 : o = Rw f) (e2 : x = iI (p : Int)) (hQ : Q (.inl (some (zi (iI (f p : Int))))) M) : zS 67 d [zl o, zi x] M Q := by
  subst e1; subst e2
  refine zW.gr [] rfl rfl rfl hd trivial trivial ?_
  simp only [zcn_I, iI_sub, iI_mul]
  rw [at_val hf hp]
  exact hQ
theorem shl_amt : ∀ s, s < 64 → ((lN s) &&& 63).toBitVec.smod 64 = BitVec.ofNat 64 s := by decide +kernel
theorem shl_amtI : ∀ s, s < 32 → ((nI s) &&& 31).toBitVec.smod 32 = BitVec.ofNat 32 s := by decide +kernel
theorem lshl_bv (x : Int64) {s : Int} (h0 : 0 ≤ s) (hs : s < 64) : (x <<< ((iI s).toInt64 &&& 63)).toBitVec = x.toBitVec <<< s.toNat := by
  obtain ⟨k, rfl⟩ : ∃ k : Nat, s = (k : Int) := ⟨s.toNat, by omega⟩
  rw [iI_L (by omega) (by omega), ← lN_L]
  show x.toBitVec <<< (((lN k) &&& 63).toBitVec.smod 64) = _
  rw [shl_amt k (by omega)]
  have e : (BitVec.ofNat 64 k).toNat = k := by rw [BitVec.toNat_ofNat]; omega
  show x.toBitVec <<< (BitVec.ofNat 64 k).toNat = x.toBitVec <<< (k : Int).toNat
  rw [e, Int.toNat_natCast]
theorem iL_bv (n : Nat) : (iL (n : Int)).toBitVec = BitVec.ofNat 64 n := by rw [← lN_L]; rfl
theorem or_shl {a v : Nat} {s : Int} (h0 : 0 ≤ s) (hs : s < 60) (ha : a < 2 ^ s.toNat) (hv : v < 16) : iL (a : Int) ||| ((iI (v : Int)).toInt64 <<< ((iI s).toInt64 &&& 63)) = iL ((a + v * 2 ^ s.toNat : Nat) : Int) := by
  obtain ⟨k, rfl⟩ : ∃ k : Nat, s = (k : Int) := ⟨s.toNat, by omega⟩
  rw [iI_L (z := (v : Int)) (by omega) (by omega)]
  refine Int64.toBitVec_inj.mp ?_
  rw [Int64.toBitVec_or, lshl_bv _ h0 (by omega), iL_bv, iL_bv, iL_bv, Int.toNat_natCast]
  rw [Int.toNat_natCast] at ha
  have hk : 2 ^ k < 2 ^ 60 := Nat.pow_lt_pow_right (by decide) (by omega)
  have hvk : v * 2 ^ k < 16 * 2 ^ 60 := Nat.lt_of_lt_of_le (Nat.mul_lt_mul_of_pos_right hv (Nat.two_pow_pos k)) (Nat.mul_le_mul_left 16 (Nat.le_of_lt hk))
  refine BitVec.eq_of_toNat_eq ?_
  simp only [BitVec.toNat_or, BitVec.toNat_shiftLeft, BitVec.toNat_ofNat]
  have e1 : a % 2 ^ 64 = a := Nat.mod_eq_of_lt (by omega)
  have e2 : v % 2 ^ 64 = v := Nat.mod_eq_of_lt (by omega)
  have e3 : v <<< k % 2 ^ 64 = v <<< k := Nat.mod_eq_of_lt (by rw [Nat.shiftLeft_eq]; omega)
  have hvk2 : v * 2 ^ k ≤ 15 * 2 ^ k := Nat.mul_le_mul_right _ (by omega)
  rw [e1, e2, e3, Nat.or_comm, ← Nat.shiftLeft_add_eq_or_of_lt ha, Nat.shiftLeft_eq, Nat.add_comm]
  exact (Nat.mod_eq_of_lt (by omega)).symm
/-- the lowest k of a row -/
def loN (f : Nat → Nat) : Nat → Nat
  | 0 => 0
  | k + 1 => loN f k + f (9 - k) * 2 ^ (4 * k)
theorem loN_lt {f : Nat → Nat} (hf : nb f) : ∀ {k : Nat}, k ≤ 10 → loN f k < 2 ^ (4 * k)
  | 0, _ => Nat.one_pos
  | k + 1, h => by
    have h1 := loN_lt hf (k := k) (by omega)
    have h2 := hf (9 - k) (by omega)
    show loN f k + f (9 - k) * 2 ^ (4 * k) < 2 ^ (4 * (k + 1))
    have h3 : f (9 - k) * 2 ^ (4 * k) ≤ 15 * 2 ^ (4 * k) := Nat.mul_le_mul_right _ (by omega)
    have h4 : (2 : Nat) ^ (4 * (k + 1)) = 16 * 2 ^ (4 * k) := by rw [Nat.mul_add, Nat.pow_add, Nat.mul_comm]
    omega
theorem loN_10 (f : Nat → Nat) : loN f 10 = rwN f 10 := by
  simp only [loN, rwN, Nat.reduceSub]
  omega
theorem nib_val {f : Nat → Nat} {k : Nat} (hf : nb f) (hk : k < 10) : (((Rw f).toUInt64 >>> ((iI (4 * (k : Int))).toInt64.toUInt64 &&& Int64.toUInt64 63)).toInt64).toInt32 &&& iI 15 = iI (f (9 - k) : Int) := by
  have h := at_val (p := 9 - k) hf (by omega)
  have e : 4 * (9 - ((9 - k : Nat) : Int)) = 4 * (k : Int) := by omega
  rw [e] at h
  exact h
theorem through_lp {d : Nat} {f g : Nat → Nat} {M : zM} {Q : zO → zM → Prop} (hd : 2 ≤ d) (hf : nb f) (hg : ∀ p, p < 10 → g p < 10) (hQ : Q (.inl (some (zl (Rw (fun p => f (g p)))))) M) : ∀ n k, k + n = 10 → ∀ (w : Option zV) (r : Int64) (x : Int32), r = iL (loN (fun p => f (g p)) k : Int) → x = iI (4 * (k : Int)) →
    zW 69 d 0 0 6 [some (zl (Rw f)), none, some (zl (Rw g)), none, some (zl r), none, some (zi x), w] [] M Q
  | 0, k, hk, w, r, x, e1, e2 => by
    subst e1; subst e2
    obtain rfl : k = 10 := by omega
    refine zW.gbt [] rfl rfl rfl (by omega) trivial ?_ (zW.gr [] rfl rfl rfl (by omega) trivial trivial ?_)
    · rw [zcn_I, iI_le (by omega) (by omega) (by omega) (by omega)]
      omega
    · rw [loN_10]
      exact hQ
  | n + 1, k, hk, w, r, x, e1, e2 => by
    subst e1; subst e2
    refine zW.gbf [] rfl rfl rfl (by omega) trivial ?_ (zW.gz [] rfl rfl rfl hd trivial trivial rfl rfl (Nat.le_refl _) (Nat.le_refl _) ?_)
    · rw [zcn_I, iI_le (by omega) (by omega) (by omega) (by omega)]
      omega
    · refine at_ok (f := f) (p := g (9 - k)) (by omega) hf (hg _ (by omega)) rfl ?_ ?_
      · rw [zcn_I]
        exact nib_val (fun p hp => Nat.lt_trans (hg p hp) (by decide)) (by omega)
      · refine zW.go [6] rfl (by omega) trivial ?_
        refine through_lp hd hf hg hQ n (k + 1) (by omega) _ _ _ ?_ ?_
        · rw [or_shl (by omega) (by omega) ?_ (hf _ (hg _ (by omega)))]
          · refine iL_cg (congrArg Nat.cast ?_)
            show _ = loN (fun p => f (g p)) k + f (g (9 - k)) * 2 ^ (4 * k)
            congr 2
          · have := loN_lt (f := fun p => f (g p)) (fun p hp => hf _ (hg p hp)) (k := k) (by omega)
            exact this
        · rw [zcn_I, iI_add]
          exact iI_cg (by omega)
theorem through_ok {d : Nat} {f g : Nat → Nat} {o i : Int64} {M : zM} {Q : zO → zM → Prop} (hd : 2 ≤ d) (hf : nb f) (hg : ∀ p, p < 10 → g p < 10) (e1 : o = Rw f) (e2 : i = Rw g) (hQ : Q (.inl (some (zl (Rw (fun p => f (g p)))))) M) : zS 69 d [zl o, zl i] M Q := by
  subst e1; subst e2
  refine zW.go [6] rfl (by omega) trivial ?_
  exact through_lp hd hf hg hQ 10 0 rfl _ _ _ rfl rfl
/-- bits of a row -/
theorem rw_bit {f : Nat → Nat} (hf : nb f) (i : Nat) : (rwN f 10).testBit i = (decide (i < 40) && (f (9 - i / 4)).testBit (i % 4)) := by
  by_cases h : i < 40
  · have hd := rwN_dig (p := 9 - i / 4) hf (by omega)
    have e1 : 10 - 1 - (9 - i / 4) = i / 4 := by omega
    rw [e1] at hd
    rw [← hd, Nat.testBit_eq_decide_div_mod_eq, Nat.testBit_eq_decide_div_mod_eq]
    have e2 : 2 ^ i = 16 ^ (i / 4) * 2 ^ (i % 4) := by
      have : (16 : Nat) = 2 ^ 4 := rfl
      rw [this, ← Nat.pow_mul, ← Nat.pow_add]
      congr 1
      omega
    rw [e2, ← Nat.div_div_eq_div_mul]
    generalize rwN f 10 / 16 ^ (i / 4) = x
    have h4 : i % 4 < 4 := Nat.mod_lt _ (by decide)
    have h5 : i % 4 = 0 ∨ i % 4 = 1 ∨ i % 4 = 2 ∨ i % 4 = 3 := by omega
    simp only [h, decide_true, Bool.true_and]
    refine decide_eq_decide.mpr ?_
    rcases h5 with q | q | q | q <;> rw [q] <;> omega
  · simp only [h, decide_false, Bool.false_and]
    exact Nat.testBit_lt_two_pow (Nat.lt_of_lt_of_le (rwN_lt hf) (by
      have : (16 : Nat) ^ 10 = 2 ^ 40 := by decide
      rw [this]
      exact Nat.pow_le_pow_right (by decide) (by omega)))
def fu (f : Nat → Nat) (p v : Nat) : Nat → Nat := fun q => if q = p then v else f q
theorem zld_15 : zldL 1235 = 15 := by decide +kernel
theorem zld_m1 : zldL 1236 = -1 := by decide +kernel
theorem with_val {f : Nat → Nat} {p v : Nat} {s : Int} (hf : nb f) (hp : p < 10) (hv : v < 16) (hs : s = 4 * (9 - (p : Int))) :
    ((Rw f &&& ((Int64.ofInt 15 <<< ((iI s).toInt64 &&& 63)) ^^^ Int64.ofInt (-1))) ||| ((iI (v : Int)).toInt64 <<< ((iI s).toInt64 &&& 63))) = Rw (fu f p v) := by
  have hfu : nb (fu f p v) := by
    intro q hq
    unfold fu
    split
    · exact hv
    · exact hf q hq
  refine Int64.toBitVec_inj.mp ?_
  rw [iI_L (z := (v : Int)) (by omega) (by omega)]
  rw [Int64.toBitVec_or, Int64.toBitVec_and, Int64.toBitVec_xor, lshl_bv _ (by omega) (by omega), lshl_bv _ (by omega) (by omega)]
  unfold Rw
  rw [iL_bv, iL_bv, iL_bv]
  refine BitVec.eq_of_getLsbD_eq fun i hi => ?_
  have e15 : (Int64.ofInt 15).toBitVec = BitVec.ofNat 64 15 := by decide
  have em1 : (Int64.ofInt (-1)).toBitVec = BitVec.allOnes 64 := by decide
  rw [e15, em1]
  simp only [BitVec.getLsbD_or, BitVec.getLsbD_and, BitVec.getLsbD_xor, BitVec.getLsbD_shiftLeft, BitVec.getLsbD_ofNat, BitVec.getLsbD_allOnes, hi, decide_true, Bool.true_and, Bool.xor_true]
  rw [rw_bit hf, rw_bit hfu]
  obtain ⟨k, hk⟩ : ∃ k, s.toNat = 4 * k ∧ k = 9 - p := ⟨9 - p, by omega, rfl⟩
  rw [hk.1]
  have h64 : i - 4 * k < 64 := by omega
  simp only [h64, decide_true, Bool.true_and]
  by_cases c1 : i < 4 * k
  · have e1 : 9 - i / 4 ≠ p ∨ ¬ i < 40 := by omega
    simp only [c1, decide_true, Bool.not_true, Bool.false_and, Bool.not_false, Bool.and_true, Bool.or_false]
    rcases e1 with e1 | e1
    · rw [show fu f p v (9 - i / 4) = f (9 - i / 4) from if_neg e1]
    · simp only [e1, decide_false, Bool.false_and]
  · simp only [c1, decide_false, Bool.not_false, Bool.true_and]
    by_cases c2 : i < 4 * k + 4
    · have e1 : 9 - i / 4 = p := by omega
      have e2 : i < 40 := by omega
      have e3 : i - 4 * k = i % 4 := by omega
      have e4 : Nat.testBit 15 (i % 4) = true := by
        have h5 : i % 4 = 0 ∨ i % 4 = 1 ∨ i % 4 = 2 ∨ i % 4 = 3 := by omega
        rcases h5 with q | q | q | q <;> rw [q] <;> decide
      rw [show fu f p v (9 - i / 4) = v from if_pos e1, e3, e4]
      simp only [e2, decide_true, Bool.true_and, Bool.not_true, Bool.and_false, Bool.false_or]
    · have e3 : 4 ≤ i - 4 * k := by omega
      have e4 : Nat.testBit 15 (i - 4 * k) = false := Nat.testBit_lt_two_pow (Nat.lt_of_lt_of_le (by decide : 15 < 2 ^ 4) (Nat.pow_le_pow_right (by decide) e3))
      have e5 : Nat.testBit v (i - 4 * k) = false := Nat.testBit_lt_two_pow (Nat.lt_of_lt_of_le (show v < 2 ^ 4 from hv) (Nat.pow_le_pow_right (by decide) e3))
      rw [e4, e5]
      simp only [Bool.not_false, Bool.and_true, Bool.or_false]
      by_cases c3 : i < 40
      · rw [show fu f p v (9 - i / 4) = f (9 - i / 4) from if_neg (by omega)]
      · simp only [c3, decide_false, Bool.false_and]
theorem with_ok {d : Nat} {f : Nat → Nat} {p v : Nat} {o : Int64} {x w : Int32} {M : zM} {Q : zO → zM → Prop} (hd : 1 ≤ d) (hf : nb f) (hp : p < 10) (hv : v < 16) (e1 : o = Rw f) (e2 : x = iI (p : Int)) (e3 : w = iI (v : Int)) (hQ : Q (.inl (some (zl (Rw (fu f p v))))) M) : zS 68 d [zl o, zi x, zi w] M Q := by
  subst e1; subst e2; subst e3
  refine zW.gr [] rfl rfl rfl hd trivial trivial ?_
  simp only [zcn_I, iI_sub, iI_mul, zld_15, zld_m1]
  rw [iI_and15, Nat.mod_eq_of_lt hv, with_val hf hp hv rfl]
  exact hQ
