/-- what is left: the law's program on the pure heap answers 1 for every script -/
theorem law_pure (L : Nat) (xs : Nat → Int32) (hL : L ≤ 3072) (sz : Nat) : ∃ (N M : Nat) (h' : zH), M ≤ 600 ∧ fL_law N M L xs (hE sz) = some (1, h') := by
  sorry
