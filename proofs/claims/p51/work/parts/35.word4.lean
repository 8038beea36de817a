/-! take, spell, countRuns, ringsUsed. -/
theorem iI_max {a b : Int} (h1 : -2147483648 ≤ a) (h2 : a < 2147483648) (h3 : -2147483648 ≤ b) (h4 : b < 2147483648) : (if iI a < iI b then iI b else iI a) = iI (if a < b then b else a) := by
  by_cases h : a < b
  · rw [if_pos h, if_pos ((iI_lt h1 h2 h3 h4).mpr h)]
  · rw [if_neg h, if_neg (fun q => h ((iI_lt h1 h2 h3 h4).mp q))]
theorem iI_min {a b : Int} (h1 : -2147483648 ≤ a) (h2 : a < 2147483648) (h3 : -2147483648 ≤ b) (h4 : b < 2147483648) : (if iI b < iI a then iI b else iI a) = iI (if b < a then b else a) := by
  by_cases h : b < a
  · rw [if_pos h, if_pos ((iI_lt h3 h4 h1 h2).mpr h)]
  · rw [if_neg h, if_neg (fun q => h ((iI_lt h3 h4 h1 h2).mp q))]
theorem hf_I : ∀ t : Nat, t < 8 → iI (t : Int) >>> (iI 1 &&& 31) = iI ((t / 2 : Nat) : Int) := by decide +kernel
theorem mk1_sk {c : Nat} {w w' : wSt} (k : mk1 c w = some w') : w'.2.1.length ≤ w.2.1.length + 1 ∧ ((∀ q, q ∈ w.2.1 → q.1 < 65536) → c < 65536 → ∀ q, q ∈ w'.2.1 → q.1 < 65536) := by
  obtain ⟨l, stk, p, cr, cb⟩ := w
  unfold mk1 at k
  dsimp only at k ⊢
  split at k
  · obtain ⟨l', k1, rfl⟩ := Option.map_eq_some_iff.mp k
    exact ⟨Nat.le_succ _, fun h _ => h⟩
  split at k
  · split at k
    · obtain ⟨l', k1, rfl⟩ := Option.map_eq_some_iff.mp k
      exact ⟨Nat.le_succ _, fun h _ => h⟩
    · cases k
  split at k
  · split at k
    · cases k
      exact ⟨Nat.le_refl _, fun h hc q hq => (List.mem_cons.mp hq).elim (fun e => by rw [e]; exact hc) (h q)⟩
    · cases k
  split at k
  · unfold wBar at k
    split at k
    · rename_i o s m r p' _ _ e
      cases e
      split at k
      · cases k
        exact ⟨Nat.le_succ _, fun h _ q hq => (List.mem_cons.mp hq).elim (fun e => by rw [e]; show 124 < 65536; decide) (fun e => h q (List.mem_cons_of_mem _ e))⟩
      · cases k
    · cases k
  split at k
  · unfold wShA at k
    split at k
    · rename_i o s m r p' _ _ e
      cases e
      split at k
      · cases k
        exact ⟨by show r.length ≤ r.length + 1 + 1; omega, fun h _ q hq => h q (List.mem_cons_of_mem _ hq)⟩
      · cases k
    · cases k
  split at k
  · unfold wShB at k
    split at k
    · rename_i o s m r p' _ _ e
      cases e
      split at k
      · obtain ⟨l', k1, rfl⟩ := Option.map_eq_some_iff.mp k
        exact ⟨by show r.length ≤ r.length + 1 + 1; omega, fun h _ q hq => h q (List.mem_cons_of_mem _ hq)⟩
      · cases k
    · cases k
  split at k
  · split at k
    · cases k
      exact ⟨Nat.le_succ _, fun h _ => h⟩
    · cases k
  · cases k
theorem take_sw {c : Nat} (hc : c < 65536) : ((43 : Int) + Op.lookupswitch.offset [(45, 82), (60, 57), (62, 68), (91, 57), (93, 75), (124, 63)] 87 (iI (c : Int)).toInt).toNat = if c = 45 then 125 else if c = 60 then 100 else if c = 62 then 111 else if c = 91 then 100 else if c = 93 then 118 else if c = 124 then 106 else 130 := by
  rw [iI_toInt (by omega) (by omega)]
  simp only [Op.lookupswitch.offset_cons, Op.lookupswitch.offset_nil]
  repeat' split
  all_goals omega
section WORD4
variable {d w : Nat} {I : Nat → Nat → Int32} {L : Nat → Nat → Int64} {R : zRt} {Q : zO → zM → Prop}
end WORD4
