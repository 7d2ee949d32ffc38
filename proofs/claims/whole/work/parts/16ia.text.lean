theorem X8_ok {fl : Nat} {m : Mem} {L p : Nat} (h18 : iI m 340 18 = L) (h19 : iI m 340 19 = p) (h20 : iI m 340 20 = -1) (hp : p = L) (hL : L ≤ 30) (v2 v3 v4 v5 v6 v7 : Int32) : ∃ m3, FG m m3 r8C ∧ iI m3 340 18 = 0 ∧ iI m3 340 21 = -1 ∧ B_X8_readBooking_164 fl 340 v2 v3 v4 v5 v6 v7 m = bd (F_X8_book fl 340 v2 v3 v4 v7 v5 v6 m3) fun q6 => some (q6.1, q6.2) := by
  obtain ⟨n1, e1, F1, y1⟩ := stI m 340 18 (v := 0) (by omega) (by omega)
  have g1 : gI n1 340 20 = oI (-1) := by rw [gI_oI, FG_I F1 (by omega), h20]
  obtain ⟨n2, e2, F2, y2⟩ := stI n1 340 21 (v := -1) (by omega) (by omega)
  have g2 : gI n2 340 20 = oI (-1) := by rw [gI_oI, FG_I F2 (by omega), FG_I F1 (by omega), h20]
  refine ⟨n2, FG_trans (FG_mono F1 (by unfold r8C; omega)) (FG_mono F2 (by unfold r8C; omega)), by rw [FG_I F2 (by omega)]; exact y1, y2, ?_⟩
  unfold B_X8_readBooking_164 B_X8_readBooking_190
  rw [show gI m 340 20 = oI (-1) from by rw [gI_oI, h20], if_neg (by decide), show gI m 340 18 = oI (L : Int) from by rw [gI_oI, h18], show gI m 340 19 = oI (p : Int) from by rw [gI_oI, h19], if_pos (by rw [oI_le (by omega) (by omega) (by omega) (by omega)]; omega), nx_eq, show pI m 340 18 0 = n1 from e1, nx_eq, g1, e2, g2, if_pos (by decide)]
theorem X8_trail {fl : Nat} {m : Mem} (hs : RO m) {L p : Nat} (h18 : iI m 340 18 = L) (h19 : iI m 340 19 = p) (h20 : iI m 340 20 = -1) (hp : p < L) (hL : L ≤ 30) (v2 v3 v4 v5 v6 v7 : Int32) : ∃ m3, FG m m3 r8C ∧ iI m3 340 18 = 0 ∧ iI m3 340 21 = p ∧ B_X8_readBooking_164 fl 340 v2 v3 v4 v5 v6 v7 m = some (0, pI m3 340 0 1) := by
  obtain ⟨n0, e0, F0, y0⟩ := stI m 340 20 (v := (p : Int)) (by omega) (by omega)
  obtain ⟨m3, g1, g2, g3, g4⟩ := X8_fin (fl := fl) (FG_RO F0 hs) y0 (by omega) v2 v3 v4 v5 v6 v7
  refine ⟨m3, FG_trans (FG_mono F0 (by unfold r8C; omega)) g1, g2, g3, ?_⟩
  have e : B_X8_readBooking_164 fl 340 v2 v3 v4 v5 v6 v7 n0 = B_X8_readBooking_190 fl 340 v2 v3 v4 v5 v6 v7 n0 := by
    unfold B_X8_readBooking_164
    rw [show gI n0 340 20 = oI (p : Int) from by rw [gI_oI, y0], if_pos (by rw [show (0 : Int32) = oI 0 from rfl, oI_le (by omega) (by omega) (by omega) (by omega)]; omega)]
  rw [e] at g4
  unfold B_X8_readBooking_164
  rw [show gI m 340 20 = oI (-1) from by rw [gI_oI, h20], if_neg (by decide), show gI m 340 18 = oI (L : Int) from by rw [gI_oI, h18], show gI m 340 19 = oI (p : Int) from by rw [gI_oI, h19], if_neg (by rw [oI_le (by omega) (by omega) (by omega) (by omega)]; omega), nx_eq, e0, g4]
