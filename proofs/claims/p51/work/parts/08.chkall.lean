/-! the checks, for every method -/
theorem zall_in {p : Nat → Bool} {a n : Nat} (h : (List.range' a n).all p = true) {y : Nat} (h1 : a ≤ y) (h2 : y < a + n) : p y = true := List.all_eq_true.mp h y (by rw [List.mem_range']; exact ⟨y - a, by omega, by omega⟩)
theorem zchk_m (y : Nat) (hy : y < 298) : zchkM y = true := by
  by_cases h0 : y < 7
  · exact zall_in zkm0 (by omega) (by omega)
  by_cases h1 : y < 17
  · exact zall_in zkm7 (by omega) (by omega)
  by_cases h2 : y < 27
  · exact zall_in zkm17 (by omega) (by omega)
  by_cases h3 : y < 41
  · exact zall_in zkm27 (by omega) (by omega)
  by_cases h4 : y < 75
  · exact zall_in zkm41 (by omega) (by omega)
  by_cases h5 : y < 97
  · exact zall_in zkm75 (by omega) (by omega)
  by_cases h6 : y < 114
  · exact zall_in zkm97 (by omega) (by omega)
  by_cases h7 : y < 144
  · exact zall_in zkm114 (by omega) (by omega)
  by_cases h8 : y < 188
  · exact zall_in zkm144 (by omega) (by omega)
  by_cases h9 : y < 254
  · exact zall_in zkm188 (by omega) (by omega)
  exact zall_in zkm254 (by omega) (by omega)
theorem zchk_p0 (y : Nat) (hy : y < 298) : zchkP y (zlen y) = true := by
  by_cases h0 : y < 7
  · exact zall_in zkp0 (by omega) (by omega)
  by_cases h1 : y < 17
  · exact zall_in zkp7 (by omega) (by omega)
  by_cases h2 : y < 27
  · exact zall_in zkp17 (by omega) (by omega)
  by_cases h3 : y < 41
  · exact zall_in zkp27 (by omega) (by omega)
  by_cases h4 : y < 75
  · exact zall_in zkp41 (by omega) (by omega)
  by_cases h5 : y < 97
  · exact zall_in zkp75 (by omega) (by omega)
  by_cases h6 : y < 114
  · exact zall_in zkp97 (by omega) (by omega)
  by_cases h7 : y < 144
  · exact zall_in zkp114 (by omega) (by omega)
  by_cases h8 : y < 188
  · exact zall_in zkp144 (by omega) (by omega)
  by_cases h9 : y < 254
  · exact zall_in zkp188 (by omega) (by omega)
  exact zall_in zkp254 (by omega) (by omega)
theorem zchkP_at {y : Nat} : ∀ (n : Nat), zchkP y n = true → ∀ (pc : Nat) (e : zE), pc < n → zopt y pc = some e → zchkI y pc e = true
  | 0, _, _, _, h, _ => absurd h (Nat.not_lt_zero _)
  | n + 1, h, pc, e, hp, he => by
    simp only [zchkP, Bool.and_eq_true] at h
    by_cases q : pc = n
    · subst q
      have := h.1
      rw [he] at this
      exact this
    · exact zchkP_at n h.2 pc e (by omega) he
theorem zchk_r (pc : Nat) (hp : pc < 1571) (e : zE) (he : zopt 298 pc = some e) : zchkI 298 pc e = true := by
  have key : ∀ {a n : Nat}, zchkR a n = true → a ≤ pc → pc < a + n → zchkI 298 pc e = true := by
    intro a n h h1 h2
    have := zall_in h h1 h2
    rw [he] at this
    exact this
  by_cases h0 : pc < 70
  · exact key zkr0 (by omega) (by omega)
  by_cases h1 : pc < 140
  · exact key zkr70 (by omega) (by omega)
  by_cases h2 : pc < 210
  · exact key zkr140 (by omega) (by omega)
  by_cases h3 : pc < 280
  · exact key zkr210 (by omega) (by omega)
  by_cases h4 : pc < 350
  · exact key zkr280 (by omega) (by omega)
  by_cases h5 : pc < 420
  · exact key zkr350 (by omega) (by omega)
  by_cases h6 : pc < 490
  · exact key zkr420 (by omega) (by omega)
  by_cases h7 : pc < 560
  · exact key zkr490 (by omega) (by omega)
  by_cases h8 : pc < 630
  · exact key zkr560 (by omega) (by omega)
  by_cases h9 : pc < 700
  · exact key zkr630 (by omega) (by omega)
  by_cases h10 : pc < 770
  · exact key zkr700 (by omega) (by omega)
  by_cases h11 : pc < 840
  · exact key zkr770 (by omega) (by omega)
  by_cases h12 : pc < 910
  · exact key zkr840 (by omega) (by omega)
  by_cases h13 : pc < 980
  · exact key zkr910 (by omega) (by omega)
  by_cases h14 : pc < 1050
  · exact key zkr980 (by omega) (by omega)
  by_cases h15 : pc < 1120
  · exact key zkr1050 (by omega) (by omega)
  by_cases h16 : pc < 1190
  · exact key zkr1120 (by omega) (by omega)
  by_cases h17 : pc < 1260
  · exact key zkr1190 (by omega) (by omega)
  by_cases h18 : pc < 1330
  · exact key zkr1260 (by omega) (by omega)
  by_cases h19 : pc < 1400
  · exact key zkr1330 (by omega) (by omega)
  by_cases h20 : pc < 1470
  · exact key zkr1400 (by omega) (by omega)
  by_cases h21 : pc < 1540
  · exact key zkr1470 (by omega) (by omega)
  exact key zkr1540 (by omega) (by omega)
theorem zchk_p (y : Nat) (hy : y < 299) (pc : Nat) (e : zE) (he : zops y pc = some e) : zchkI y pc e = true := by
  unfold zops at he
  cases hb : Nat.ble (zlen y) pc
  · rw [hb] at he
    have hlt : pc < zlen y := by
      rcases Nat.lt_or_ge pc (zlen y) with q | q
      · exact q
      · rw [Nat.ble_eq_true_of_le q] at hb
        cases hb
    by_cases h : y < 298
    · exact zchkP_at _ (zchk_p0 y h) pc e hlt he
    · have e2 : y = 298 := by omega
      subst e2
      exact zchk_r pc hlt e he
  · rw [hb] at he
    cases he
