/-! Numbers: ints and longs by their integers; the memory in pieces. -/
def iI (z : Int) : Int32 := Int32.ofInt z
def iL (z : Int) : Int64 := Int64.ofInt z
theorem iI_toInt {z : Int} (h1 : -2147483648 ≤ z) (h2 : z < 2147483648) : (iI z).toInt = z := Int32.toInt_ofInt_of_le h1 h2
theorem iL_toInt {z : Int} (h1 : -9223372036854775808 ≤ z) (h2 : z < 9223372036854775808) : (iL z).toInt = z := Int64.toInt_ofInt_of_le h1 h2
theorem iI_of (x : Int32) : ∃ z : Int, -2147483648 ≤ z ∧ z < 2147483648 ∧ x = iI z := ⟨x.toInt, Int32.le_toInt x, Int32.toInt_lt x, (Int32.ofInt_toInt x).symm⟩
theorem iL_of (x : Int64) : ∃ z : Int, -9223372036854775808 ≤ z ∧ z < 9223372036854775808 ∧ x = iL z := ⟨x.toInt, Int64.le_toInt x, Int64.toInt_lt x, (Int64.ofInt_toInt x).symm⟩
theorem iI_cg {a b : Int} (h : a = b) : iI a = iI b := congrArg iI h
theorem iL_cg {a b : Int} (h : a = b) : iL a = iL b := congrArg iL h
theorem nI_I (n : Nat) : nI n = iI (n : Int) := (Int32.ofInt_eq_ofNat (n := n)).symm
theorem lN_L (n : Nat) : lN n = iL (n : Int) := (Int64.ofInt_eq_ofNat (n := n)).symm
theorem zcn_I (n : Int) : zcn n = iI n := by
  cases n with
  | ofNat n => exact nI_I n
  | negSucc n => rfl
theorem iI_0 : iI 0 = 0 := by decide +kernel
theorem iI_1 : iI 1 = 1 := by decide +kernel
theorem iI_add (a b : Int) : iI a + iI b = iI (a + b) := (Int32.ofInt_add a b).symm
theorem iI_sub (a b : Int) : iI a - iI b = iI (a - b) := (Int32.ofInt_sub a b).symm
theorem iI_mul (a b : Int) : iI a * iI b = iI (a * b) := (Int32.ofInt_mul a b).symm
theorem iI_neg (a : Int) : -iI a = iI (-a) := (Int32.ofInt_neg a).symm
theorem iL_add (a b : Int) : iL a + iL b = iL (a + b) := (Int64.ofInt_add a b).symm
theorem iL_sub (a b : Int) : iL a - iL b = iL (a - b) := (Int64.ofInt_sub a b).symm
theorem iL_mul (a b : Int) : iL a * iL b = iL (a * b) := (Int64.ofInt_mul a b).symm
theorem iI_lt {a b : Int} (h1 : -2147483648 ≤ a) (h2 : a < 2147483648) (h3 : -2147483648 ≤ b) (h4 : b < 2147483648) : iI a < iI b ↔ a < b := by
  rw [Int32.lt_iff_toInt_lt, iI_toInt h1 h2, iI_toInt h3 h4]
theorem iI_le {a b : Int} (h1 : -2147483648 ≤ a) (h2 : a < 2147483648) (h3 : -2147483648 ≤ b) (h4 : b < 2147483648) : iI a ≤ iI b ↔ a ≤ b := by
  rw [Int32.le_iff_toInt_le, iI_toInt h1 h2, iI_toInt h3 h4]
theorem iI_eq {a b : Int} (h1 : -2147483648 ≤ a) (h2 : a < 2147483648) (h3 : -2147483648 ≤ b) (h4 : b < 2147483648) : iI a = iI b ↔ a = b := by
  rw [← Int32.toInt_inj, iI_toInt h1 h2, iI_toInt h3 h4]
theorem iI_lt0 {a : Int} (h1 : -2147483648 ≤ a) (h2 : a < 2147483648) : iI a < 0 ↔ a < 0 := by rw [← iI_0, iI_lt h1 h2 (by decide) (by decide)]
theorem iI_le0 {a : Int} (h1 : -2147483648 ≤ a) (h2 : a < 2147483648) : iI a ≤ 0 ↔ a ≤ 0 := by rw [← iI_0, iI_le h1 h2 (by decide) (by decide)]
theorem iI_gt0 {a : Int} (h1 : -2147483648 ≤ a) (h2 : a < 2147483648) : 0 < iI a ↔ 0 < a := by rw [← iI_0, iI_lt (by decide) (by decide) h1 h2]
theorem iI_ge0 {a : Int} (h1 : -2147483648 ≤ a) (h2 : a < 2147483648) : 0 ≤ iI a ↔ 0 ≤ a := by rw [← iI_0, iI_le (by decide) (by decide) h1 h2]
theorem iI_eq0 {a : Int} (h1 : -2147483648 ≤ a) (h2 : a < 2147483648) : iI a = 0 ↔ a = 0 := by rw [← iI_0, iI_eq h1 h2 (by decide) (by decide)]
theorem iL_lt {a b : Int} (h1 : -9223372036854775808 ≤ a) (h2 : a < 9223372036854775808) (h3 : -9223372036854775808 ≤ b) (h4 : b < 9223372036854775808) : iL a < iL b ↔ a < b := by
  rw [Int64.lt_iff_toInt_lt, iL_toInt h1 h2, iL_toInt h3 h4]
theorem iL_le {a b : Int} (h1 : -9223372036854775808 ≤ a) (h2 : a < 9223372036854775808) (h3 : -9223372036854775808 ≤ b) (h4 : b < 9223372036854775808) : iL a ≤ iL b ↔ a ≤ b := by
  rw [Int64.le_iff_toInt_le, iL_toInt h1 h2, iL_toInt h3 h4]
theorem iL_eq {a b : Int} (h1 : -9223372036854775808 ≤ a) (h2 : a < 9223372036854775808) (h3 : -9223372036854775808 ≤ b) (h4 : b < 9223372036854775808) : iL a = iL b ↔ a = b := by
  rw [← Int64.toInt_inj, iL_toInt h1 h2, iL_toInt h3 h4]
theorem iI_ix {z : Int} (h1 : -2147483648 ≤ z) (h2 : z < 2147483648) : (iI z).toNatClampNeg = z.toNat := by
  show (iI z).toInt.toNat = z.toNat
  rw [iI_toInt h1 h2]
theorem iI_ixN {n : Nat} (h : n < 2147483648) : (iI (n : Int)).toNatClampNeg = n := by rw [iI_ix (by omega) (by omega)]; omega
theorem iI_vp {z : Int} {n : Nat} (h1 : -2147483648 ≤ z) (h2 : z < 2147483648) : vp_in (iI z) n ↔ 0 ≤ z ∧ z < n := by rw [vp_in_iff, iI_toInt h1 h2]
theorem iI_L {z : Int} (h1 : -2147483648 ≤ z) (h2 : z < 2147483648) : (iI z).toInt64 = iL z := Int64.toInt_inj.mp (by rw [Int32.toInt_toInt64, iI_toInt h1 h2, iL_toInt (by omega) (by omega)])
theorem iL_I (z : Int) : (iL z).toInt32 = iI z := Int64.toInt32_ofInt
theorem iI_tdiv {a b : Int} (h1 : -2147483648 < a) (h2 : a < 2147483648) (h3 : -2147483648 ≤ b) (h4 : b < 2147483648) : iI a / iI b = iI (a.tdiv b) := by
  unfold iI
  rw [Int32.ofInt_tdiv (by have : Int32.minValue.toInt = -2147483648 := by decide
                           omega) (by have : Int32.maxValue.toInt = 2147483647 := by decide
                                      omega) (by have : Int32.minValue.toInt = -2147483648 := by decide
                                                 omega) (by have : Int32.maxValue.toInt = 2147483647 := by decide
                                                            omega)]
theorem iI_div {a b : Int} (h1 : 0 ≤ a) (h2 : a < 2147483648) (h3 : 0 < b) (h4 : b < 2147483648) : iI a / iI b = iI (a / b) := by
  rw [iI_tdiv (by omega) h2 (by omega) h4, Int.tdiv_eq_ediv_of_nonneg h1]
theorem iI_mod {a b : Int} (h1 : 0 ≤ a) (h2 : a < 2147483648) (h3 : 0 < b) (h4 : b < 2147483648) : iI a - iI a / iI b * iI b = iI (a % b) := by
  rw [iI_div h1 h2 h3 h4, iI_mul, iI_sub]
  have := Int.mul_ediv_add_emod a b
  exact iI_cg (by rw [Int.mul_comm (a / b) b]; omega)
/-- ones and zeros -/
def bz (b : Bool) : Int32 := iI (if b then 1 else 0)
theorem bz_t : bz true = iI 1 := rfl
theorem bz_f : bz false = iI 0 := rfl
theorem z01_0 : z01 (iI 0) := Or.inl iI_0
theorem z01_1 : z01 (iI 1) := Or.inr iI_1
theorem z01_b (b : Bool) : z01 (bz b) := by cases b <;> first | exact z01_0 | exact z01_1
-- the memory: ints, longs, and the rest (references, kinds, the next address)
abbrev zRt : Type := (Nat → Nat → Option Nat) × (Nat → Option (Nat × Nat)) × Nat
def upI (I : Nat → Nat → Int32) (a k : Nat) (x : Int32) : Nat → Nat → Int32 := fun b j => if b = a ∧ j = k then x else I b j
def upL (I : Nat → Nat → Int64) (a k : Nat) (x : Int64) : Nat → Nat → Int64 := fun b j => if b = a ∧ j = k then x else I b j
theorem upI_same (I : Nat → Nat → Int32) (a k : Nat) (x : Int32) : upI I a k x a k = x := if_pos ⟨rfl, rfl⟩
theorem upI_ne {I : Nat → Nat → Int32} {a k b j : Nat} {x : Int32} (h : ¬ (b = a ∧ j = k)) : upI I a k x b j = I b j := if_neg h
theorem upI_row {I : Nat → Nat → Int32} {a k b : Nat} {x : Int32} (h : b ≠ a) : upI I a k x b = I b := funext fun _ => if_neg fun q => h q.1
theorem upL_same (I : Nat → Nat → Int64) (a k : Nat) (x : Int64) : upL I a k x a k = x := if_pos ⟨rfl, rfl⟩
theorem upL_ne {I : Nat → Nat → Int64} {a k b j : Nat} {x : Int64} (h : ¬ (b = a ∧ j = k)) : upL I a k x b j = I b j := if_neg h
theorem upL_row {I : Nat → Nat → Int64} {a k b : Nat} {x : Int64} (h : b ≠ a) : upL I a k x b = I b := funext fun _ => if_neg fun q => h q.1
theorem zwI_up (I : Nat → Nat → Int32) (L : Nat → Nat → Int64) (R : zRt) (a k : Nat) (x : Int32) : zwI (I, L, R) a k x = (upI I a k x, L, R) := rfl
theorem zwL_up (I : Nat → Nat → Int32) (L : Nat → Nat → Int64) (R : zRt) (a k : Nat) (x : Int64) : zwL (I, L, R) a k x = (I, upL L a k x, R) := rfl
theorem zI_mk (I : Nat → Nat → Int32) (L : Nat → Nat → Int64) (R : zRt) : zI (I, L, R) = I := rfl
theorem zL_mk (I : Nat → Nat → Int32) (L : Nat → Nat → Int64) (R : zRt) : zL (I, L, R) = L := rfl
theorem zP_mk (I : Nat → Nat → Int32) (L : Nat → Nat → Int64) (R : zRt) : zP (I, L, R) = R.1 := rfl
theorem zK_mk (I : Nat → Nat → Int32) (L : Nat → Nat → Int64) (R : zRt) : zK (I, L, R) = R.2.1 := rfl
theorem zN_mk (I : Nat → Nat → Int32) (L : Nat → Nat → Int64) (R : zRt) : zN (I, L, R) = R.2.2 := rfl
theorem zg_some (a : Nat) : zg (some a) = a := rfl
theorem zar_I {M : zM} {a t n : Nat} {z : Int} (hk : zK M a = some (t, n)) (h0 : 0 ≤ z) (h1 : z < n) (h2 : n < 2147483648) : zar M (some a) t (iI z) := ⟨a, n, rfl, hk, (iI_vp (by omega) (by omega)).mpr ⟨h0, h1⟩⟩
theorem zob_I {M : zM} {a c : Nat} (hk : zK M a = some (c, 0)) : zob M (some a) c := ⟨a, rfl, hk⟩
theorem zis_I {M : zM} {a t n : Nat} (hk : zK M a = some (t, n)) : zis M (some a) t := ⟨a, n, rfl, hk⟩
