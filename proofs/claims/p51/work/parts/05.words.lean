/-! The words of all methods, by their places. -/
/-- a number as it stands in the code -/
def zcn : Int → Int32
  | .ofNat n => nI n
  | .negSucc n => Int32.ofInt (.negSucc n)
def zel : Nat → FieldType
  | 0 => .int
  | 1 => .long
  | 2 => .boolean
  | 3 => .char
  | 4 => .int
  | 5 => .array .int
  | 6 => .array .int
  | 7 => .object "TurnFace$Puzzle"
  | 8 => .object "TurnFace$Round"
  | 9 => .array .int
  | _ => .int
/-- the words that all methods have: those of the tables that a callee may keep -/
def zU : List Cond := lw_tbl.filter goodWord
/-- the tables' words in their pieces: place 1000 k + j is word j of piece k -/
def zseg (k : Nat) : List Cond := match k with
  | 0 => k2_sels lw_privs
  | 1 => tables_1_1
  | 2 => tables_1_2
  | 3 => tables_1_3
  | 4 => tables_1_4
  | _ => []
theorem zseg_in {k : Nat} {w : Cond} (h : w ∈ zseg k) : w ∈ lw_tbl := by
  unfold lw_tbl tables_1
  simp only [List.mem_append]
  unfold zseg at h
  split at h
  · exact Or.inl h
  · exact Or.inr (Or.inl h)
  · exact Or.inr (Or.inr (Or.inl h))
  · exact Or.inr (Or.inr (Or.inr (Or.inl h)))
  · exact Or.inr (Or.inr (Or.inr (Or.inr h)))
  · cases h
def zlk (i : Nat) : Option Cond := (zseg (i / 1000))[i % 1000]?
def zwd (i : Nat) (w : Cond) : Bool := decide (zlk i = some w) && goodWord w
theorem zlk_in {i : Nat} {w : Cond} (h : zlk i = some w) : w ∈ lw_tbl := zseg_in (List.mem_of_getElem? h)
theorem zwd_in {i : Nat} {w : Cond} (h : zwd i w = true) : w ∈ zU := by
  simp only [zwd, Bool.and_eq_true, decide_eq_true_eq] at h
  exact List.mem_filter.mpr ⟨zlk_in h.1, h.2⟩
theorem zU_good : ∀ w ∈ zU, goodWord w = true := fun _ h => (List.mem_filter.mp h).2
