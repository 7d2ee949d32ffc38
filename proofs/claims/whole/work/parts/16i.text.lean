theorem X8_67k {fl : Nat} {u m : Mem} {T : Nat → Int} {L : Nat} (Fu : FG u m r8C) (h : TR m T L) (h19 : iI m 340 19 = (0 : Nat)) (h20 : iI m 340 20 = -1) (hk : rdK T L < 0) : O8 fl u T L (B_X8_readBooking_57 fl 340 (oI (rdK T L)) m) := by
  have l30 := h.2.1
  have hF : rdF T L = 0 := if_pos hk
  have hk1 : rdK T L = -1 := by
    unfold rdK at hk ⊢
    split at hk
    · omega
    · split at hk
      · omega
      · split at hk
        · omega
        · rename_i a b c
          rw [if_neg a, if_neg b, if_neg c]
  obtain ⟨m1, e1, F1, y1⟩ := stI m 340 20 (v := 0) (by omega) (by omega)
  obtain ⟨m2, e2, F2, y2⟩ := stI m1 340 19 (v := ((1 : Nat) : Int)) (by omega) (by omega)
  have z20 : iI m2 340 20 = 0 := by rw [FG_I F2 (by omega)]; exact y1
  have F : FG u m2 r8C := FG_trans Fu (FG_trans (FG_mono F1 (by unfold r8C; omega)) (FG_mono F2 (by unfold r8C; omega)))
  refine O8_f (m := m2) (FG_RO F2 (FG_RO F1 h.1)) F (by rw [z20, hF]) (by omega) (oI (-1)) 0 0 0 0 ?_
  unfold B_X8_readBooking_57
  rw [hk1, if_neg (by decide), nx_eq, show pI m 340 20 0 = m1 from e1]
  unfold B_X8_readBooking_67
  rw [show gI m1 340 19 + 1 = oI ((1 : Nat) : Int) from by rw [gI_oI, FG_I F1 (by omega), h19]; rfl, nx_eq, e2, X8_number_f (by omega), bd_some]
  dsimp only
  rw [X8_wants_f (by omega), bd_some, X8_number_f (by omega), bd_some]
  dsimp only
  rw [X8_wants_f (by omega), bd_some, X8_number_f (by omega), bd_some]
  dsimp only
  rw [X8_wants_f (by omega), bd_some, X8_number_f (by omega), bd_some]
