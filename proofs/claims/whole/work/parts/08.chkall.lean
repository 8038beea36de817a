/-! the checks, for every method -/
theorem zall_in {p : Nat → Bool} {a n : Nat} (h : (List.range' a n).all p = true) {y : Nat} (h1 : a ≤ y) (h2 : y < a + n) : p y = true := List.all_eq_true.mp h y (by rw [List.mem_range']; exact ⟨y - a, by omega, by omega⟩)
theorem zchk_m (y : Nat) (hy : y < 298) : zchkM y = true := by
  by_cases h0 : y < 6
  · exact zall_in zkm0 (by omega) (by omega)
  by_cases h1 : y < 14
  · exact zall_in zkm6 (by omega) (by omega)
  by_cases h2 : y < 23
  · exact zall_in zkm14 (by omega) (by omega)
  by_cases h3 : y < 24
  · exact zall_in zkm23 (by omega) (by omega)
  by_cases h4 : y < 34
  · exact zall_in zkm24 (by omega) (by omega)
  by_cases h5 : y < 42
  · exact zall_in zkm34 (by omega) (by omega)
  by_cases h6 : y < 53
  · exact zall_in zkm42 (by omega) (by omega)
  by_cases h7 : y < 55
  · exact zall_in zkm53 (by omega) (by omega)
  by_cases h8 : y < 63
  · exact zall_in zkm55 (by omega) (by omega)
  by_cases h9 : y < 74
  · exact zall_in zkm63 (by omega) (by omega)
  by_cases h10 : y < 81
  · exact zall_in zkm74 (by omega) (by omega)
  by_cases h11 : y < 82
  · exact zall_in zkm81 (by omega) (by omega)
  by_cases h12 : y < 93
  · exact zall_in zkm82 (by omega) (by omega)
  by_cases h13 : y < 100
  · exact zall_in zkm93 (by omega) (by omega)
  by_cases h14 : y < 114
  · exact zall_in zkm100 (by omega) (by omega)
  by_cases h15 : y < 118
  · exact zall_in zkm114 (by omega) (by omega)
  by_cases h16 : y < 130
  · exact zall_in zkm118 (by omega) (by omega)
  by_cases h17 : y < 139
  · exact zall_in zkm130 (by omega) (by omega)
  by_cases h18 : y < 147
  · exact zall_in zkm139 (by omega) (by omega)
  by_cases h19 : y < 148
  · exact zall_in zkm147 (by omega) (by omega)
  by_cases h20 : y < 160
  · exact zall_in zkm148 (by omega) (by omega)
  by_cases h21 : y < 169
  · exact zall_in zkm160 (by omega) (by omega)
  by_cases h22 : y < 172
  · exact zall_in zkm169 (by omega) (by omega)
  by_cases h23 : y < 177
  · exact zall_in zkm172 (by omega) (by omega)
  by_cases h24 : y < 181
  · exact zall_in zkm177 (by omega) (by omega)
  by_cases h25 : y < 187
  · exact zall_in zkm181 (by omega) (by omega)
  by_cases h26 : y < 192
  · exact zall_in zkm187 (by omega) (by omega)
  by_cases h27 : y < 196
  · exact zall_in zkm192 (by omega) (by omega)
  by_cases h28 : y < 201
  · exact zall_in zkm196 (by omega) (by omega)
  by_cases h29 : y < 202
  · exact zall_in zkm201 (by omega) (by omega)
  by_cases h30 : y < 209
  · exact zall_in zkm202 (by omega) (by omega)
  by_cases h31 : y < 216
  · exact zall_in zkm209 (by omega) (by omega)
  by_cases h32 : y < 225
  · exact zall_in zkm216 (by omega) (by omega)
  by_cases h33 : y < 231
  · exact zall_in zkm225 (by omega) (by omega)
  by_cases h34 : y < 235
  · exact zall_in zkm231 (by omega) (by omega)
  by_cases h35 : y < 240
  · exact zall_in zkm235 (by omega) (by omega)
  by_cases h36 : y < 246
  · exact zall_in zkm240 (by omega) (by omega)
  by_cases h37 : y < 253
  · exact zall_in zkm246 (by omega) (by omega)
  by_cases h38 : y < 266
  · exact zall_in zkm253 (by omega) (by omega)
  by_cases h39 : y < 281
  · exact zall_in zkm266 (by omega) (by omega)
  by_cases h40 : y < 295
  · exact zall_in zkm281 (by omega) (by omega)
  exact zall_in zkm295 (by omega) (by omega)
theorem zchk_p0 (y : Nat) (hy : y < 298) : zchkP y (zlen y) = true := by
  by_cases h0 : y < 6
  · exact zall_in zkp0 (by omega) (by omega)
  by_cases h1 : y < 14
  · exact zall_in zkp6 (by omega) (by omega)
  by_cases h2 : y < 23
  · exact zall_in zkp14 (by omega) (by omega)
  by_cases h3 : y < 24
  · exact zall_in zkp23 (by omega) (by omega)
  by_cases h4 : y < 34
  · exact zall_in zkp24 (by omega) (by omega)
  by_cases h5 : y < 42
  · exact zall_in zkp34 (by omega) (by omega)
  by_cases h6 : y < 53
  · exact zall_in zkp42 (by omega) (by omega)
  by_cases h7 : y < 55
  · exact zall_in zkp53 (by omega) (by omega)
  by_cases h8 : y < 63
  · exact zall_in zkp55 (by omega) (by omega)
  by_cases h9 : y < 74
  · exact zall_in zkp63 (by omega) (by omega)
  by_cases h10 : y < 81
  · exact zall_in zkp74 (by omega) (by omega)
  by_cases h11 : y < 82
  · exact zall_in zkp81 (by omega) (by omega)
  by_cases h12 : y < 93
  · exact zall_in zkp82 (by omega) (by omega)
  by_cases h13 : y < 100
  · exact zall_in zkp93 (by omega) (by omega)
  by_cases h14 : y < 114
  · exact zall_in zkp100 (by omega) (by omega)
  by_cases h15 : y < 118
  · exact zall_in zkp114 (by omega) (by omega)
  by_cases h16 : y < 130
  · exact zall_in zkp118 (by omega) (by omega)
  by_cases h17 : y < 139
  · exact zall_in zkp130 (by omega) (by omega)
  by_cases h18 : y < 147
  · exact zall_in zkp139 (by omega) (by omega)
  by_cases h19 : y < 148
  · exact zall_in zkp147 (by omega) (by omega)
  by_cases h20 : y < 160
  · exact zall_in zkp148 (by omega) (by omega)
  by_cases h21 : y < 169
  · exact zall_in zkp160 (by omega) (by omega)
  by_cases h22 : y < 172
  · exact zall_in zkp169 (by omega) (by omega)
  by_cases h23 : y < 177
  · exact zall_in zkp172 (by omega) (by omega)
  by_cases h24 : y < 181
  · exact zall_in zkp177 (by omega) (by omega)
  by_cases h25 : y < 187
  · exact zall_in zkp181 (by omega) (by omega)
  by_cases h26 : y < 192
  · exact zall_in zkp187 (by omega) (by omega)
  by_cases h27 : y < 196
  · exact zall_in zkp192 (by omega) (by omega)
  by_cases h28 : y < 201
  · exact zall_in zkp196 (by omega) (by omega)
  by_cases h29 : y < 202
  · exact zall_in zkp201 (by omega) (by omega)
  by_cases h30 : y < 209
  · exact zall_in zkp202 (by omega) (by omega)
  by_cases h31 : y < 216
  · exact zall_in zkp209 (by omega) (by omega)
  by_cases h32 : y < 225
  · exact zall_in zkp216 (by omega) (by omega)
  by_cases h33 : y < 231
  · exact zall_in zkp225 (by omega) (by omega)
  by_cases h34 : y < 235
  · exact zall_in zkp231 (by omega) (by omega)
  by_cases h35 : y < 240
  · exact zall_in zkp235 (by omega) (by omega)
  by_cases h36 : y < 246
  · exact zall_in zkp240 (by omega) (by omega)
  by_cases h37 : y < 253
  · exact zall_in zkp246 (by omega) (by omega)
  by_cases h38 : y < 266
  · exact zall_in zkp253 (by omega) (by omega)
  by_cases h39 : y < 281
  · exact zall_in zkp266 (by omega) (by omega)
  by_cases h40 : y < 295
  · exact zall_in zkp281 (by omega) (by omega)
  exact zall_in zkp295 (by omega) (by omega)
theorem zchkP_at {y : Nat} : ∀ (n : Nat), zchkP y n = true → ∀ (pc : Nat) (e : zE), pc < n → zopt y pc = some e → zchkI y pc e = true
  | 0, _, _, _, h, _ => absurd h (Nat.not_lt_zero _)
  | n + 1, h, pc, e, hp, he => by
    simp only [zchkP, Bool.and_eq_true] at h
    by_cases q : pc = n
    · subst q
      have := h.1
      rw [he] at this
      exact this
    · exact zchkP_at n h.2 pc e (by omega) he
theorem zchk_r (pc : Nat) (hp : pc < 3366) (e : zE) (he : zopt 298 pc = some e) : zchkI 298 pc e = true := by
  have key : ∀ {a n : Nat}, zchkR a n = true → a ≤ pc → pc < a + n → zchkI 298 pc e = true := by
    intro a n h h1 h2
    have := zall_in h h1 h2
    rw [he] at this
    exact this
  by_cases h0 : pc < 280
  · exact key zkr0 (by omega) (by omega)
  by_cases h1 : pc < 560
  · exact key zkr280 (by omega) (by omega)
  by_cases h2 : pc < 840
  · exact key zkr560 (by omega) (by omega)
  by_cases h3 : pc < 1120
  · exact key zkr840 (by omega) (by omega)
  by_cases h4 : pc < 1400
  · exact key zkr1120 (by omega) (by omega)
  by_cases h5 : pc < 1470
  · exact key zkr1400 (by omega) (by omega)
  by_cases h6 : pc < 1540
  · exact key zkr1470 (by omega) (by omega)
  by_cases h7 : pc < 1610
  · exact key zkr1540 (by omega) (by omega)
  by_cases h8 : pc < 1680
  · exact key zkr1610 (by omega) (by omega)
  by_cases h9 : pc < 1750
  · exact key zkr1680 (by omega) (by omega)
  by_cases h10 : pc < 1820
  · exact key zkr1750 (by omega) (by omega)
  by_cases h11 : pc < 1890
  · exact key zkr1820 (by omega) (by omega)
  by_cases h12 : pc < 1960
  · exact key zkr1890 (by omega) (by omega)
  by_cases h13 : pc < 2030
  · exact key zkr1960 (by omega) (by omega)
  by_cases h14 : pc < 2100
  · exact key zkr2030 (by omega) (by omega)
  by_cases h15 : pc < 2170
  · exact key zkr2100 (by omega) (by omega)
  by_cases h16 : pc < 2240
  · exact key zkr2170 (by omega) (by omega)
  by_cases h17 : pc < 2310
  · exact key zkr2240 (by omega) (by omega)
  by_cases h18 : pc < 2380
  · exact key zkr2310 (by omega) (by omega)
  by_cases h19 : pc < 2450
  · exact key zkr2380 (by omega) (by omega)
  by_cases h20 : pc < 2520
  · exact key zkr2450 (by omega) (by omega)
  by_cases h21 : pc < 2590
  · exact key zkr2520 (by omega) (by omega)
  by_cases h22 : pc < 2660
  · exact key zkr2590 (by omega) (by omega)
  by_cases h23 : pc < 2730
  · exact key zkr2660 (by omega) (by omega)
  by_cases h24 : pc < 2800
  · exact key zkr2730 (by omega) (by omega)
  by_cases h25 : pc < 2870
  · exact key zkr2800 (by omega) (by omega)
  by_cases h26 : pc < 2940
  · exact key zkr2870 (by omega) (by omega)
  by_cases h27 : pc < 3010
  · exact key zkr2940 (by omega) (by omega)
  by_cases h28 : pc < 3080
  · exact key zkr3010 (by omega) (by omega)
  by_cases h29 : pc < 3150
  · exact key zkr3080 (by omega) (by omega)
  by_cases h30 : pc < 3220
  · exact key zkr3150 (by omega) (by omega)
  by_cases h31 : pc < 3290
  · exact key zkr3220 (by omega) (by omega)
  by_cases h32 : pc < 3360
  · exact key zkr3290 (by omega) (by omega)
  exact key zkr3360 (by omega) (by omega)
theorem zchk_p (y : Nat) (hy : y < 299) (pc : Nat) (e : zE) (he : zops y pc = some e) : zchkI y pc e = true := by
  unfold zops at he
  cases hb : Nat.ble (zlen y) pc
  · rw [hb] at he
    have hlt : pc < zlen y := by
      rcases Nat.lt_or_ge pc (zlen y) with q | q
      · exact q
      · rw [Nat.ble_eq_true_of_le q] at hb
        cases hb
    by_cases h : y < 298
    · exact zchkP_at _ (zchk_p0 y h) pc e hlt he
    · have e2 : y = 298 := by omega
      subst e2
      exact zchk_r pc hlt e he
  · rw [hb] at he
    cases he
