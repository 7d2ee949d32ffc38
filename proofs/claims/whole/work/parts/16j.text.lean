theorem X8_67 {fl : Nat} {u m : Mem} {T : Nat → Int} {L : Nat} (Fu : FG u m r8C) (h : TR m T L) (h19 : iI m 340 19 = (0 : Nat)) (h20 : iI m 340 20 = -1) (hk : 0 ≤ rdK T L) : O8 fl u T L (B_X8_readBooking_57 fl 340 (oI (rdK T L)) m) := by
  have l30 := h.2.1
  have n0 : ¬ rdK T L < 0 := by omega
  have k2 : rdK T L ≤ 2 := by unfold rdK; repeat' split
                              all_goals omega
  have hL1 : 1 ≤ L := by
    apply Classical.byContradiction
    intro hL
    unfold rdK at hk
    rw [if_neg (fun z => hL (by have := z.1; omega)), if_neg (fun z => hL (by have := z.1; omega)), if_neg (fun z => hL (by have := z.1; omega))] at hk
    omega
  obtain ⟨m0, e0, F0, y0⟩ := stI m 340 19 (v := ((1 : Nat) : Int)) (by omega) (by omega)
  have t0 : TR m0 T L := TR_FG F0 (by omega) h
  have C0 : FG u m0 r8C := FG_trans Fu (FG_mono F0 (by unfold r8C; omega))
  unfold B_X8_readBooking_57 B_X8_readBooking_67
  rw [if_pos (by rw [show (0 : Int32) = oI 0 from rfl, oI_le (by omega) (by omega) (by omega) (by omega)]; exact hk), show gI m 340 19 + 1 = oI ((1 : Nat) : Int) from by rw [gI_oI, h19]; rfl, nx_eq, e0]
  obtain ⟨v1, m1, a1, A1, N1⟩ := X8_num (fl := fl) t0 y0 hL1 (by rw [FG_I F0 (by omega)]; exact h20)
  have C1 : FG u m1 r8C := FG_trans C0 (r8_of A1)
  have t1 : TR m1 T L := TR_FG A1 (by omega) t0
  rw [a1, bd_some]
  dsimp only
  rcases N1 with ⟨h1, rfl, y1, z1⟩ | ⟨h1, z1⟩
  rotate_left
  · have hF : rdF T L = 1 := by unfold rdF; rw [if_neg n0, if_pos h1]
    refine O8_f (m := m1) t1.1 C1 (by rw [z1, hF]; rfl) (by omega) (oI (rdK T L)) v1 0 0 0 ?_
    rw [X8_wants_f (by omega), bd_some, X8_number_f (by omega), bd_some]
    dsimp only
    rw [X8_wants_f (by omega), bd_some, X8_number_f (by omega), bd_some]
    dsimp only
    rw [X8_wants_f (by omega), bd_some, X8_number_f (by omega), bd_some]
  have l1 := nmE_le h1
  obtain ⟨m2, a2, A2, N2⟩ := X8_wan (fl := fl) t1 (p := rq1 T L) y1 l1.1 z1 (ch := 120) (by omega) (by omega)
  have C2 : FG u m2 r8C := FG_trans C1 (r8_of A2)
  have t2 : TR m2 T L := TR_FG A2 (by omega) t1
  rw [show F_X8_wants fl 340 120 m1 = _ from a2, bd_some]
  rcases N2 with ⟨h3, y2, z2⟩ | ⟨h3, z2⟩
  rotate_left
  · have hF : rdF T L = rq1 T L := by unfold rdF; rw [if_neg n0, if_neg (fun z => z h1), if_pos h3]
    refine O8_f (m := m2) t2.1 C2 (by rw [z2, hF]) (by omega) (oI (rdK T L)) (oI (nmV T L 1)) 0 0 0 ?_
    rw [X8_number_f (by omega), bd_some]
    dsimp only
    rw [X8_wants_f (by omega), bd_some, X8_number_f (by omega), bd_some]
    dsimp only
    rw [X8_wants_f (by omega), bd_some, X8_number_f (by omega), bd_some]
  sorry
