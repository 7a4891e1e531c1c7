/-- a guard whose index has been read already -/
theorem gz {α : Type} {n N : Nat} (h : n < N) (hN : N < 2 ^ 31) (x : Option α) : (if nI n < 0 ∨ N ≤ n then none else x) = x := if_neg (fun z => z.elim (nI_pos (by omega)) (by omega))
