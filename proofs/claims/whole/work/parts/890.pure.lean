theorem pure_law (xs : Nat → Int32) (L : Nat) (hL : L ≤ 3072) : J_law xs L 0 cs25 = some 1 := by
  sorry
