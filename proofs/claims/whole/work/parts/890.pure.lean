set_option maxRecDepth 100000
theorem cs25_ : zRel cs25 ∧ rBank cs25.1 := by
  refine init_ (σ := cs25) ?_ ?_ ?_ ?_ ?_ ?_ ?_ ?_ ?_ ?_
  · decide +kernel
  · decide +kernel
  · decide +kernel
  · decide +kernel
  · decide +kernel
  · decide +kernel
  · decide +kernel
  · decide +kernel
  · decide +kernel
  · decide +kernel
theorem pure_law (xs : Nat → Int32) (L : Nat) (hL : L ≤ 3072) : J_law xs L 0 cs25 = some 1 := law_all xs hL cs25_.1 cs25_.2
