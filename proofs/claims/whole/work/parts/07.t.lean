theorem zt_at (d : Nat) (hd : 1 ≤ d) (row : Int64) (place : Int32) (M : zM) : zS 67 d [zl row, zi place] M (fun o M' => o = .inl (some (zi 5)) ∧ M' = M) := by
  refine zW.go [] rfl hd ?_ ?_
  · done
  · refine zW.ret rfl rfl hd ?_ ?_
    · done
    · done
