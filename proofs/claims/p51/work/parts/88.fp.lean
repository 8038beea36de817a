/-! Quotients of whole numbers are numbers. -/
theorem fp_enc {f : FP.Core.Fmt} {c : Nat} {q : Int} (ht : 2 ^ f.p = 2 * f.tails) (h0 : f.qmin ≤ q) (h1 : q + 1 ≤ f.qmax) (hc : c ≤ 2 * f.tails) : FP.Core.encode f (FP.Core.settle f false c q) ≤ ((q - f.qmin).toNat + 2) * f.tails := by
  have e1 : ((q - f.qmin).toNat + 2) * f.tails = (q - f.qmin).toNat * f.tails + 2 * f.tails := Nat.add_mul _ _ _
  have e2 : ((q - f.qmin).toNat + 1) * f.tails = (q - f.qmin).toNat * f.tails + 1 * f.tails := Nat.add_mul _ _ _
  unfold FP.Core.settle FP.Core.bound
  split
  · rw [if_pos (by omega)]
    simp only [FP.Core.encode]
    split
    · simp only [FP.Core.assemble, Bool.toNat_false, Nat.zero_mul, Nat.zero_add]
      omega
    · simp only [FP.Core.assemble, Bool.toNat_false, Nat.zero_mul, Nat.zero_add]
      omega
  · simp only [FP.Core.encode]
    rw [if_neg (Nat.lt_irrefl _)]
    simp only [FP.Core.assemble, Bool.toNat_false, Nat.zero_mul, Nat.zero_add]
    have e3 : (q + 1 - f.qmin).toNat + 1 = (q - f.qmin).toNat + 2 := by omega
    rw [e3, Nat.sub_self]
    exact Nat.le_refl _
theorem fp_near (n d : Nat) : FP.Core.nearest n d ≤ n / d + 1 := by
  unfold FP.Core.nearest
  have := Nat.mod_lt (n / d) (show 0 < 2 by decide)
  split
  · omega
  · split <;> omega
theorem fp_near1 (n : Nat) : FP.Core.nearest n 1 = n := by
  unfold FP.Core.nearest
  rw [Nat.mod_one, if_pos (by decide), Nat.div_one]
theorem fp_log {n k : Nat} (h1 : 2 ^ k ≤ n) (h2 : n < 2 ^ (k + 1)) : n.log2 = k := (Nat.log2_eq_iff (by have := Nat.two_pow_pos k; omega)).mpr ⟨h1, h2⟩
theorem fp_ex {n : Nat} (h : 1 ≤ n) : ∃ k, 2 ^ k ≤ n ∧ n < 2 ^ (k + 1) := ⟨n.log2, (Nat.log2_eq_iff (by omega)).mp rfl⟩
/-- a whole number, exact -/
theorem fp_dec {f : FP.Core.Fmt} {c E : Nat} {q : Int} (ht : 0 < f.tails) (hc : f.tails ≤ c) (hc2 : c < 2 * f.tails) (hq : f.qmin + E = q) (hE : E + 2 < f.exps) : FP.Core.decode f (FP.Core.encode f (.fin false c q)) = .fin false c q := by
  simp only [FP.Core.encode]
  rw [if_neg (by omega)]
  simp only [FP.Core.assemble, Bool.toNat_false, Nat.zero_mul, Nat.zero_add]
  rw [show (q - f.qmin).toNat = E by omega]
  have g1 : ((E + 1) * f.tails + (c - f.tails)) / f.tails = E + 1 := by
    rw [Nat.add_comm, Nat.add_mul_div_right _ _ ht, Nat.div_eq_of_lt (by omega), Nat.zero_add]
  have g2 : ((E + 1) * f.tails + (c - f.tails)) % f.tails = c - f.tails := by
    rw [Nat.add_comm, Nat.add_mul_mod_self_right, Nat.mod_eq_of_lt (by omega)]
  have g3 : FP.Core.fieldE f ((E + 1) * f.tails + (c - f.tails)) = E + 1 := by
    unfold FP.Core.fieldE
    rw [g1, Nat.mod_eq_of_lt (by omega)]
  have g4 : FP.Core.fieldS f ((E + 1) * f.tails + (c - f.tails)) = false := by
    unfold FP.Core.fieldS
    rw [g1, Nat.div_eq_of_lt (by omega)]
    rfl
  unfold FP.Core.decode
  rw [g3, if_neg (by omega), if_neg (by omega), g4]
  unfold FP.Core.fieldT
  rw [g2]
  congr 1
  · omega
  · omega
theorem fp_rr {f : FP.Core.Fmt} {n k p : Nat} {e : Int} (hp : f.p = p + 1) (h1 : 2 ^ k ≤ n) (h2 : n < 2 ^ (k + 1)) (hk : k ≤ p) (hm : f.qmin ≤ e + k - p) (hM : e + k - p ≤ f.qmax) : FP.Core.roundRatio f false n 1 e = .fin false (n * 2 ^ (p - k)) (e + k - p) := by
  have hn : n ≠ 0 := by have := Nat.two_pow_pos k; omega
  unfold FP.Core.roundRatio FP.Core.roundAt
  rw [if_neg hn]
  have hl : FP.Core.leading n 1 = (k : Int) := by
    unfold FP.Core.leading
    rw [fp_log h1 h2, show (1 : Nat).log2 = 0 by decide]
    dsimp only
    rw [if_pos (by
      rw [show ((k : Int) - ((0 : Nat) : Int)).toNat = k by omega, show (-((k : Int) - ((0 : Nat) : Int))).toNat = 0 by omega, Nat.one_mul, Nat.pow_zero, Nat.mul_one]
      exact h1)]
    omega
  have hq : FP.Core.quantum f n 1 e = e + k - p := by
    unfold FP.Core.quantum
    rw [hl, hp]
    omega
  rw [hq]
  unfold FP.Core.unitsNum FP.Core.unitsDen
  rw [show (e - (e + (k : Int) - p)).toNat = p - k by omega, show ((e + (k : Int) - p) - e).toNat = 0 by omega, Nat.pow_zero, Nat.mul_one, fp_near1]
  unfold FP.Core.settle FP.Core.bound
  rw [if_pos (by
    rw [hp]
    have : n * 2 ^ (p - k) < 2 ^ (k + 1) * 2 ^ (p - k) := Nat.mul_lt_mul_of_pos_right h2 (Nat.two_pow_pos _)
    rw [← Nat.pow_add, show k + 1 + (p - k) = p + 1 by omega] at this
    exact this), if_pos hM]
theorem fp_int {f : FP.Core.Fmt} {n k p : Nat} (hp : f.p = p + 1) (h1 : 2 ^ k ≤ n) (h2 : n < 2 ^ (k + 1)) (hk : k ≤ p) (hm : f.qmin ≤ (k : Int) - p) (hM : (k : Int) - p ≤ f.qmax) : FP.Core.round f (FP.Core.ofInt (n : Int)) = .fin false (n * 2 ^ (p - k)) ((k : Int) - p) := by
  unfold FP.Core.ofInt
  rw [show decide ((n : Int) < 0) = false from decide_eq_false (by omega), show (n : Int).natAbs = n from rfl]
  show FP.Core.roundRatio f false n 1 0 = _
  rw [fp_rr hp h1 h2 hk (by omega) (by omega), Int.zero_add]
theorem fp_rg {n k p : Nat} (h1 : 2 ^ k ≤ n) (h2 : n < 2 ^ (k + 1)) (hk : k ≤ p) : 2 ^ p ≤ n * 2 ^ (p - k) ∧ n * 2 ^ (p - k) < 2 * 2 ^ p := by
  have a1 : 2 ^ k * 2 ^ (p - k) ≤ n * 2 ^ (p - k) := Nat.mul_le_mul_right _ h1
  have a2 : n * 2 ^ (p - k) < 2 ^ (k + 1) * 2 ^ (p - k) := Nat.mul_lt_mul_of_pos_right h2 (Nat.two_pow_pos _)
  rw [← Nat.pow_add, show k + (p - k) = p by omega] at a1
  rw [← Nat.pow_add, show k + 1 + (p - k) = p + 1 by omega, Nat.pow_succ] at a2
  exact ⟨a1, by omega⟩
theorem fp_log1 {c p : Nat} (h1 : 2 ^ p ≤ c) (h2 : c < 2 * 2 ^ p) : c.log2 = p := fp_log h1 (by rw [Nat.pow_succ]; omega)
/-- a quotient of two that are normal -/
theorem fp_quo {f : FP.Core.Fmt} {c d p : Nat} {e : Int} (hp : f.p = p + 1) (ht : f.tails = 2 ^ p) (hc1 : 2 ^ p ≤ c) (hc2 : c < 2 * 2 ^ p) (hd1 : 2 ^ p ≤ d) (hd2 : d < 2 * 2 ^ p) (hm : f.qmin + p + 1 ≤ e) (hM : e + 1 ≤ f.qmax + p) : FP.Core.encode f (FP.Core.roundRatio f false c d e) ≤ ((e - p - f.qmin).toNat + 2) * f.tails := by
  have h2p : 0 < 2 ^ p := Nat.two_pow_pos p
  unfold FP.Core.roundRatio FP.Core.roundAt
  rw [if_neg (by omega)]
  have hl : FP.Core.leading c d = if d ≤ c then 0 else -1 := by
    unfold FP.Core.leading
    rw [fp_log1 hc1 hc2, fp_log1 hd1 hd2]
    dsimp only
    rw [show ((p : Int) - p) = 0 by omega]
    simp only [Int.toNat_zero, Int.neg_zero, Nat.pow_zero, Nat.mul_one]
    rfl
  have hpp : 2 ^ f.p = 2 * f.tails := by rw [hp, ht, Nat.pow_succ, Nat.mul_comm]
  by_cases h : d ≤ c
  · rw [if_pos h] at hl
    have hq : FP.Core.quantum f c d e = e - p := by
      unfold FP.Core.quantum
      rw [hl, hp]
      omega
    rw [hq]
    refine fp_enc hpp (by omega) (by omega) ?_
    refine Nat.le_trans (fp_near _ _) ?_
    unfold FP.Core.unitsNum FP.Core.unitsDen
    rw [show (e - (e - (p : Int))).toNat = p by omega, show (e - (p : Int) - e).toNat = 0 by omega, Nat.pow_zero, Nat.mul_one, ht]
    have : c * 2 ^ p / d < 2 * 2 ^ p := (Nat.div_lt_iff_lt_mul (by omega)).mpr (by
      have q1 : c * 2 ^ p < 2 * 2 ^ p * 2 ^ p := Nat.mul_lt_mul_of_pos_right hc2 h2p
      have q2 : 2 * 2 ^ p * 2 ^ p ≤ 2 * 2 ^ p * d := Nat.mul_le_mul_left _ hd1
      omega)
    omega
  · rw [if_neg h] at hl
    have hq : FP.Core.quantum f c d e = e - p - 1 := by
      unfold FP.Core.quantum
      rw [hl, hp]
      omega
    rw [hq]
    have := fp_enc (f := f) (c := FP.Core.nearest (FP.Core.unitsNum c e (e - p - 1)) (FP.Core.unitsDen d e (e - p - 1))) (q := e - p - 1) hpp (by omega) (by omega) (by
      refine Nat.le_trans (fp_near _ _) ?_
      unfold FP.Core.unitsNum FP.Core.unitsDen
      rw [show (e - (e - (p : Int) - 1)).toNat = p + 1 by omega, show (e - (p : Int) - 1 - e).toNat = 0 by omega, Nat.pow_zero, Nat.mul_one, ht]
      have : c * 2 ^ (p + 1) / d < 2 * 2 ^ p := (Nat.div_lt_iff_lt_mul (by omega)).mpr (by
        rw [Nat.pow_succ, Nat.mul_comm (2 ^ p) 2, Nat.mul_comm c]
        exact Nat.mul_lt_mul_of_pos_left (by omega) (by omega))
      omega)
    refine Nat.le_trans this (Nat.mul_le_mul_right _ (by omega))
theorem b64_c : FP.Core.b64.p = 52 + 1 ∧ FP.Core.b64.tails = 2 ^ 52 ∧ FP.Core.b64.qmin = -1074 ∧ FP.Core.b64.qmax = 971 ∧ FP.Core.b64.exps = 2048 := by decide +kernel
theorem b32_c : FP.Core.b32.p = 23 + 1 ∧ FP.Core.b32.tails = 2 ^ 23 ∧ FP.Core.b32.qmin = -149 ∧ FP.Core.b32.qmax = 104 ∧ FP.Core.b32.exps = 256 := by decide +kernel
theorem n64_of {m : Nat} (h : m ≤ 9218868437227405312) : vf_n64 (UInt64.ofNat m) := by
  unfold vf_n64
  rw [UInt64.le_iff_toNat_le, UInt64.toNat_and]
  have e : (UInt64.ofNat m).toNat = m := by
    rw [UInt64.toNat_ofNat']
    exact Nat.mod_eq_of_lt (by omega)
  rw [e, show (0x7fffffffffffffff : UInt64).toNat = 2 ^ 63 - 1 by decide +kernel, Nat.and_two_pow_sub_one_eq_mod, show (0x7ff0000000000000 : UInt64).toNat = 9218868437227405312 by decide +kernel]
  exact Nat.le_trans (Nat.mod_le _ _) h
theorem n32_of {m : Nat} (h : m ≤ 2139095040) : vf_n32 (UInt32.ofNat m) := by
  unfold vf_n32
  rw [UInt32.le_iff_toNat_le, UInt32.toNat_and]
  have e : (UInt32.ofNat m).toNat = m := by
    rw [UInt32.toNat_ofNat']
    exact Nat.mod_eq_of_lt (by omega)
  rw [e, show (0x7fffffff : UInt32).toNat = 2 ^ 31 - 1 by decide +kernel, Nat.and_two_pow_sub_one_eq_mod, show (0x7f800000 : UInt32).toNat = 2139095040 by decide +kernel]
  exact Nat.le_trans (Nat.mod_le _ _) h
/-- an int's bits say it -/
theorem fp_bits {f : FP.Core.Fmt} {n k p E : Nat} (hp : f.p = p + 1) (ht : f.tails = 2 ^ p) (h1 : 2 ^ k ≤ n) (h2 : n < 2 ^ (k + 1)) (hk : k ≤ p) (hE : f.qmin + E = (k : Int) - p) (hE2 : E + 2 < f.exps) (hM : (k : Int) - p + 1 ≤ f.qmax) : FP.Core.decode f (FP.Core.fromInt f (n : Int)) = .fin false (n * 2 ^ (p - k)) ((k : Int) - p) ∧ FP.Core.fromInt f (n : Int) ≤ (E + 2) * 2 ^ p := by
  have hpp : 2 ^ f.p = 2 * f.tails := by rw [hp, ht, Nat.pow_succ, Nat.mul_comm]
  obtain ⟨g1, g2⟩ := fp_rg h1 h2 hk
  unfold FP.Core.fromInt
  rw [fp_int hp h1 h2 hk (by omega) (by omega)]
  refine ⟨fp_dec (E := E) (by rw [ht]; exact Nat.two_pow_pos p) (by rw [ht]; exact g1) (by rw [ht]; exact g2) (by omega) hE2, ?_⟩
  have h := fp_enc (f := f) (c := n * 2 ^ (p - k)) (q := (k : Int) - p) hpp (by omega) hM (by rw [ht]; omega)
  have hs : FP.Core.settle f false (n * 2 ^ (p - k)) ((k : Int) - p) = .fin false (n * 2 ^ (p - k)) ((k : Int) - p) := by
    unfold FP.Core.settle FP.Core.bound
    rw [if_pos (by rw [hpp, ht]; exact g2), if_pos (by omega)]
  rw [hs, ht, show ((k : Int) - p - f.qmin).toNat = E by omega] at h
  exact h
theorem l2d_bits {n k : Nat} (h1 : 2 ^ k ≤ n) (h2 : n < 2 ^ (k + 1)) (hk : k ≤ 31) : FP.Core.decode FP.Core.b64 (FP.l2d (iL (n : Int))).toNat = .fin false (n * 2 ^ (52 - k)) ((k : Int) - 52) := by
  obtain ⟨c1, c2, c3, c4, c5⟩ := b64_c
  have hn : n < 2 ^ 32 := Nat.lt_of_lt_of_le h2 (Nat.pow_le_pow_right (by decide) (by omega))
  obtain ⟨a1, a2⟩ := fp_bits (f := FP.Core.b64) (n := n) (k := k) (p := 52) (E := 1022 + k) c1 c2 h1 h2 (by omega) (by omega) (by omega) (by omega)
  have e : (FP.l2d (iL (n : Int))).toNat = FP.Core.fromInt FP.Core.b64 (n : Int) := by
    show (UInt64.ofNat (FP.Core.fromInt FP.Core.b64 (iL (n : Int)).toInt)).toNat = _
    rw [iL_toInt (by omega) (by omega), UInt64.toNat_ofNat']
    exact Nat.mod_eq_of_lt (Nat.lt_of_le_of_lt a2 (Nat.lt_of_le_of_lt (Nat.mul_le_mul_right _ (show 1022 + k + 2 ≤ 1055 by omega)) (by decide)))
  rw [e]
  exact a1
theorem l2d_0 : FP.Core.decode FP.Core.b64 (FP.l2d (iL 0)).toNat = .fin false 0 (-1074) := by decide +kernel
theorem i2f_bits {n k : Nat} (h1 : 2 ^ k ≤ n) (h2 : n < 2 ^ (k + 1)) (hk : k ≤ 9) : FP.Core.decode FP.Core.b32 (FP.i2f (iI (n : Int))).toNat = .fin false (n * 2 ^ (23 - k)) ((k : Int) - 23) := by
  obtain ⟨c1, c2, c3, c4, c5⟩ := b32_c
  have hn : n < 2 ^ 10 := Nat.lt_of_lt_of_le h2 (Nat.pow_le_pow_right (by decide) (by omega))
  obtain ⟨a1, a2⟩ := fp_bits (f := FP.Core.b32) (n := n) (k := k) (p := 23) (E := 126 + k) c1 c2 h1 h2 (by omega) (by omega) (by omega) (by omega)
  have e : (FP.i2f (iI (n : Int))).toNat = FP.Core.fromInt FP.Core.b32 (n : Int) := by
    show (UInt32.ofNat (FP.Core.fromInt FP.Core.b32 (iI (n : Int)).toInt)).toNat = _
    rw [iI_toInt (by omega) (by omega), UInt32.toNat_ofNat']
    exact Nat.mod_eq_of_lt (Nat.lt_of_le_of_lt a2 (Nat.lt_of_le_of_lt (Nat.mul_le_mul_right _ (show 126 + k + 2 ≤ 137 by omega)) (by decide)))
  rw [e]
  exact a1
theorem i2f_0 : FP.Core.decode FP.Core.b32 (FP.i2f (iI 0)).toNat = .fin false 0 (-149) := by decide +kernel
theorem pow_k {n k K : Nat} (h1 : 2 ^ k ≤ n) (h : n < 2 ^ K) : k < K := (Nat.pow_lt_pow_iff_right (by decide)).mp (Nat.lt_of_le_of_lt h1 h)
theorem n64_quo {s n : Nat} (hn : 1 ≤ n) (hn2 : n < 2 ^ 31) (hs : s < 2 ^ 31) : vf_n64 (FP.ddiv (FP.l2d (iL (s : Int))) (FP.l2d (iL (n : Int)))) := by
  obtain ⟨c1, c2, c3, c4, c5⟩ := b64_c
  obtain ⟨k, k1, k2⟩ := fp_ex hn
  have hk := pow_k k1 hn2
  have d2 := l2d_bits k1 k2 (by omega)
  obtain ⟨g1, g2⟩ := fp_rg (p := 52) k1 k2 (by omega)
  show vf_n64 (UInt64.ofNat (FP.Core.encode FP.Core.b64 (FP.Core.quotient FP.Core.b64 (FP.Core.decode FP.Core.b64 (FP.l2d (iL (s : Int))).toNat) (FP.Core.decode FP.Core.b64 (FP.l2d (iL (n : Int))).toNat))))
  rw [d2]
  by_cases h0 : s = 0
  · subst h0
    rw [show ((0 : Nat) : Int) = 0 from rfl, l2d_0]
    unfold FP.Core.quotient
    dsimp only
    rw [if_neg (by have := Nat.two_pow_pos 52; omega)]
    unfold FP.Core.roundRatio
    rw [if_pos rfl]
    exact n64_of (by decide +kernel)
  · obtain ⟨j, j1, j2⟩ := fp_ex (show 1 ≤ s by omega)
    have hj := pow_k j1 hs
    rw [l2d_bits j1 j2 (by omega)]
    obtain ⟨q1, q2⟩ := fp_rg (p := 52) j1 j2 (by omega)
    unfold FP.Core.quotient
    dsimp only
    rw [if_neg (by have := Nat.two_pow_pos 52; omega)]
    have := fp_quo (f := FP.Core.b64) (p := 52) (e := (j : Int) - 52 - ((k : Int) - 52)) c1 c2 q1 q2 g1 g2 (by omega) (by omega)
    refine n64_of (Nat.le_trans this ?_)
    rw [c2, c3]
    have e : ((j : Int) - 52 - ((k : Int) - 52) - ((52 : Nat) : Int) - -1074).toNat + 2 ≤ 2047 := by omega
    exact Nat.le_trans (Nat.mul_le_mul_right _ e) (by decide)
theorem n32_quo {s n : Nat} (hn : 1 ≤ n) (hn2 : n < 2 ^ 10) (hs : s < 2 ^ 10) : ∃ m, m ≤ 137 * 2 ^ 23 ∧ FP.fdiv (FP.i2f (iI (s : Int))) (FP.i2f (iI (n : Int))) = UInt32.ofNat m := by
  obtain ⟨c1, c2, c3, c4, c5⟩ := b32_c
  obtain ⟨k, k1, k2⟩ := fp_ex hn
  have hk := pow_k k1 hn2
  have d2 := i2f_bits k1 k2 (by omega)
  obtain ⟨g1, g2⟩ := fp_rg (p := 23) k1 k2 (by omega)
  refine ⟨_, ?_, show FP.fdiv (FP.i2f (iI (s : Int))) (FP.i2f (iI (n : Int))) = UInt32.ofNat (FP.Core.encode FP.Core.b32 (FP.Core.quotient FP.Core.b32 (FP.Core.decode FP.Core.b32 (FP.i2f (iI (s : Int))).toNat) (FP.Core.decode FP.Core.b32 (FP.i2f (iI (n : Int))).toNat))) from rfl⟩
  rw [d2]
  by_cases h0 : s = 0
  · subst h0
    rw [show ((0 : Nat) : Int) = 0 from rfl, i2f_0]
    unfold FP.Core.quotient
    dsimp only
    rw [if_neg (by have := Nat.two_pow_pos 23; omega)]
    unfold FP.Core.roundRatio
    rw [if_pos rfl]
    decide +kernel
  · obtain ⟨j, j1, j2⟩ := fp_ex (show 1 ≤ s by omega)
    have hj := pow_k j1 hs
    rw [i2f_bits j1 j2 (by omega)]
    obtain ⟨q1, q2⟩ := fp_rg (p := 23) j1 j2 (by omega)
    unfold FP.Core.quotient
    dsimp only
    rw [if_neg (by have := Nat.two_pow_pos 23; omega)]
    have := fp_quo (f := FP.Core.b32) (p := 23) (e := (j : Int) - 23 - ((k : Int) - 23)) c1 c2 q1 q2 g1 g2 (by omega) (by omega)
    refine Nat.le_trans this ?_
    rw [c2, c3]
    exact Nat.mul_le_mul_right _ (by omega)
theorem n64_widen {m : Nat} (h : m ≤ 137 * 2 ^ 23) : vf_n64 (FP.f2d (UInt32.ofNat m)) := by
  obtain ⟨c1, c2, c3, c4, c5⟩ := b32_c
  obtain ⟨f1, f2, f3, f4, f5⟩ := b64_c
  have e : (UInt32.ofNat m).toNat = m := by
    rw [UInt32.toNat_ofNat']
    exact Nat.mod_eq_of_lt (Nat.lt_of_le_of_lt h (by decide))
  have hE : m / 2 ^ 23 ≤ 137 := (Nat.div_le_iff_le_mul (by decide)).mpr (by omega)
  have hF : FP.Core.fieldE FP.Core.b32 m = m / 2 ^ 23 := by
    unfold FP.Core.fieldE
    rw [c2, c5]
    exact Nat.mod_eq_of_lt (by omega)
  have hS : FP.Core.fieldS FP.Core.b32 m = false := by
    unfold FP.Core.fieldS
    rw [c2, c5, Nat.div_eq_of_lt (by omega)]
    rfl
  have hT : FP.Core.fieldT FP.Core.b32 m < 2 ^ 23 := by
    unfold FP.Core.fieldT
    rw [c2]
    exact Nat.mod_lt _ (by decide)
  obtain ⟨c, q, hd, hc, hq1, hq2⟩ : ∃ (c : Nat) (q : Int), FP.Core.decode FP.Core.b32 m = .fin false c q ∧ c < 2 ^ 24 ∧ -149 ≤ q ∧ q ≤ 0 := by
    unfold FP.Core.decode
    rw [hF, hS, c5, c2, c3, if_neg (by omega)]
    split
    · exact ⟨_, _, rfl, by omega, by omega, by omega⟩
    · exact ⟨_, _, rfl, by omega, by omega, by omega⟩
  unfold FP.f2d
  have hN : FP.Core.fIsNaN (UInt32.ofNat m) = false := by
    show decide (FP.Core.decode FP.Core.b32 (UInt32.ofNat m).toNat = .nan) = false
    rw [e, hd]
    exact decide_eq_false (fun q => by cases q)
  rw [hN, if_neg (by decide)]
  show vf_n64 (UInt64.ofNat (FP.Core.encode FP.Core.b64 (FP.Core.round FP.Core.b64 (FP.Core.decode FP.Core.b32 (UInt32.ofNat m).toNat))))
  rw [e, hd]
  show vf_n64 (UInt64.ofNat (FP.Core.encode FP.Core.b64 (FP.Core.roundRatio FP.Core.b64 false c 1 q)))
  by_cases h0 : c = 0
  · subst h0
    unfold FP.Core.roundRatio
    rw [if_pos rfl]
    exact n64_of (by decide +kernel)
  · obtain ⟨k, k1, k2⟩ := fp_ex (show 1 ≤ c by omega)
    have hk := pow_k k1 hc
    obtain ⟨g1, g2⟩ := fp_rg (p := 52) k1 k2 (by omega)
    have hpp : 2 ^ FP.Core.b64.p = 2 * FP.Core.b64.tails := by rw [f1, f2]
    rw [fp_rr (p := 52) f1 k1 k2 (by omega) (by omega) (by omega)]
    have h := fp_enc (f := FP.Core.b64) (c := c * 2 ^ (52 - k)) (q := q + (k : Int) - ((52 : Nat) : Int)) hpp (by omega) (by omega) (by rw [f2]; omega)
    have hs : FP.Core.settle FP.Core.b64 false (c * 2 ^ (52 - k)) (q + (k : Int) - ((52 : Nat) : Int)) = .fin false (c * 2 ^ (52 - k)) (q + (k : Int) - ((52 : Nat) : Int)) := by
      unfold FP.Core.settle FP.Core.bound
      rw [if_pos (by rw [hpp, f2]; exact g2), if_pos (by omega)]
    rw [hs] at h
    refine n64_of (Nat.le_trans h ?_)
    rw [f2, f3]
    have e : (q + (k : Int) - ((52 : Nat) : Int) - -1074).toNat + 2 ≤ 2047 := by omega
    exact Nat.le_trans (Nat.mul_le_mul_right _ e) (by decide)
theorem n32_q {s n : Nat} (hn : 1 ≤ n) (hn2 : n < 2 ^ 10) (hs : s < 2 ^ 10) : vf_n32 (FP.fdiv (FP.i2f (iI (s : Int))) (FP.i2f (iI (n : Int)))) ∧ vf_n64 (FP.f2d (FP.fdiv (FP.i2f (iI (s : Int))) (FP.i2f (iI (n : Int))))) := by
  obtain ⟨m, h1, h2⟩ := n32_quo hn hn2 hs
  rw [h2]
  exact ⟨n32_of (Nat.le_trans h1 (by decide)), n64_widen h1⟩
theorem n64_nan {x : UInt64} (h : vf_n64 x) : FP.Core.decode FP.Core.b64 x.toNat ≠ .nan := by
  obtain ⟨f1, f2, f3, f4, f5⟩ := b64_c
  unfold vf_n64 at h
  rw [UInt64.le_iff_toNat_le, UInt64.toNat_and, show (0x7fffffffffffffff : UInt64).toNat = 2 ^ 63 - 1 by decide +kernel, Nat.and_two_pow_sub_one_eq_mod, show (0x7ff0000000000000 : UInt64).toNat = 9218868437227405312 by decide +kernel] at h
  unfold FP.Core.decode
  split
  · rename_i h1
    split
    · exact fun q => by cases q
    · rename_i h2
      unfold FP.Core.fieldE at h1
      unfold FP.Core.fieldT at h2
      rw [f2, f5] at h1
      rw [f2] at h2
      exfalso
      omega
  · split
    · exact fun q => by cases q
    · exact fun q => by cases q
theorem dcmp_same {x : UInt64} (h : vf_n64 x) : FP.dcmp x x = some .eq := by
  have h1 := n64_nan h
  show FP.Core.order (FP.Core.decode FP.Core.b64 x.toNat) (FP.Core.decode FP.Core.b64 x.toNat) = some .eq
  generalize FP.Core.decode FP.Core.b64 x.toNat = D at h1 ⊢
  cases D with
  | nan => exact absurd rfl h1
  | inf s =>
    exact congrArg some (Std.ReflCmp.compare_self (cmp := compare))
  | fin s c q =>
    exact congrArg some (Std.ReflCmp.compare_self (cmp := compare))
