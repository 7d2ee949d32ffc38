theorem law_true {L : Nat} (hL : L ≤ 3584) (xs : Nat → Int32) : ∃ fl nn : Nat, nn ≤ 60000 ∧ B_L_law fl xs L nn 0 mem0 = some 1 := by
  sorry
