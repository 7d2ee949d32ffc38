-- after a fault nothing more is read
theorem X8_rest {fl : Nat} {m : Mem} (hs : RO m) {q : Int} (h : iI m 340 20 = q) (q0 : 0 ≤ q) (v2 a b c d : Int32) : ∃ m3, FG m m3 r8C ∧ iI m3 340 18 = 0 ∧ iI m3 340 21 = q ∧ (if 0 ≤ (gI m 340 20) then B_X8_readBooking_164 fl 340 v2 a b c d (0 : Int32) m else if (gI m 340 18) ≤ (gI m 340 19) then B_X8_readBooking_164 fl 340 v2 a b c d (0 : Int32) m else bd (F_X8_here fl 340 m) fun q32 => if q32 = (112 : Int32) then (nx (pI m 340 19 ((gI m 340 19) + (1 : Int32))) fun m35 => bd (F_X8_number fl 340 m35) fun q37 => B_X8_readBooking_164 fl 340 v2 a b c d q37.1 q37.2) else B_X8_readBooking_164 fl 340 v2 a b c d (0 : Int32) m) = some (0, pI m3 340 0 1) := by
  have hi := iI_hi m 340 20
  rw [h] at hi
  rw [show gI m 340 20 = oI q from by rw [gI_oI, h], if_pos (by rw [show (0 : Int32) = oI 0 from rfl, oI_le (by omega) (by omega) (by omega) (by omega)]; omega)]
  exact X8_fin hs h q0 _ _ _ _ _ _
theorem X8_kind {fl : Nat} {u : Mem} {T : Nat → Int} {L : Nat} (h : TR u T L) : ∃ m, FG u m r8C ∧ TR m T L ∧ iI m 340 19 = (0 : Nat) ∧ iI m 340 20 = -1 ∧ F_X8_readBooking fl 340 u = B_X8_readBooking_57 fl 340 (oI (rdK T L)) m := by
  have l30 := h.2.1
  have b0 := h.2.2.2.2 0
  obtain ⟨m1, e1, F1, y1⟩ := stI u 340 19 (v := ((0 : Nat) : Int)) (by omega) (by omega)
  obtain ⟨m2, e2, F2, y2⟩ := stI m1 340 20 (v := -1) (by omega) (by omega)
  have F : FG u m2 (fun k j => k = 340 ∧ (j = 19 ∨ j = 20)) := FG_trans (FG_mono F1 (by omega)) (FG_mono F2 (by omega))
  have t : TR m2 T L := TR_FG F (by omega) h
  have y19 : iI m2 340 19 = (0 : Nat) := by rw [FG_I F2 (by omega)]; exact y1
  have hh := X8_here (fl := fl) t y19 (Nat.zero_le _)
  refine ⟨m2, FG_mono F (by unfold r8C; omega), t, y19, y2, ?_⟩
  unfold F_X8_readBooking
  rw [nx_eq, show pI u 340 19 0 = m1 from e1, nx_eq, show pI m1 340 20 (-1) = m2 from e2, hh, bd_some, show gI m2 340 18 = oI (L : Int) from by rw [gI_oI, t.2.2.1]]
  unfold rdK sgP
  by_cases hL : L = 0
  · subst hL
    rw [if_pos (show oI ((0 : Nat) : Int) = 0 from rfl), if_neg (by omega), if_neg (by omega), if_neg (by omega)]
    rfl
  · have hL' : 0 < L := by omega
    rw [if_neg (by rw [show (0 : Int32) = oI 0 from rfl, oI_eq (by omega) (by omega) (by omega) (by omega)]; omega), if_pos hL']
    by_cases k1 : T 0 = 116
    · rw [if_pos (show oI (T 0) = 116 from congrArg oI k1), if_pos ⟨hL', k1⟩]; rfl
    · rw [if_neg (by rw [show (116 : Int32) = oI 116 from rfl, oI_eq (by omega) (by omega) (by omega) (by omega)]; exact k1), if_neg (show ¬ (0 < L ∧ T 0 = 116) from fun z => k1 z.2)]
      by_cases k2 : T 0 = 99
      · rw [if_pos (show oI (T 0) = 99 from congrArg oI k2), if_pos ⟨hL', k2⟩]; rfl
      · rw [if_neg (by rw [show (99 : Int32) = oI 99 from rfl, oI_eq (by omega) (by omega) (by omega) (by omega)]; exact k2), if_neg (show ¬ (0 < L ∧ T 0 = 99) from fun z => k2 z.2)]
        by_cases k3 : T 0 = 109
        · rw [if_pos (show oI (T 0) = 109 from congrArg oI k3), if_pos ⟨hL', k3⟩]; rfl
        · rw [if_neg (by rw [show (109 : Int32) = oI 109 from rfl, oI_eq (by omega) (by omega) (by omega) (by omega)]; exact k3), if_neg (show ¬ (0 < L ∧ T 0 = 109) from fun z => k3 z.2)]; rfl
