theorem law_true {L : Nat} (hL : L ≤ 3584) (xs : Nat → Int32) : ∃ fl nn : Nat, nn ≤ 60000 ∧ B_L_law fl xs L nn 0 mem0 = some 1 := by
  have h := law_run (fl := 1000) (Nat.le_refl _) (xs := xs) hL 600 0 mem0 Inv_mem0 (by omega) (by omega)
  rw [show oI ((7 * 0 : Nat) : Int) = 0 from rfl] at h
  exact ⟨1000, 600, by omega, h⟩
