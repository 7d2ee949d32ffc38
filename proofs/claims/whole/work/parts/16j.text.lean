theorem X8_67 {fl : Nat} {u m : Mem} {T : Nat → Int} {L : Nat} (Fu : FG u m r8C) (h : TR m T L) (h19 : iI m 340 19 = (0 : Nat)) (h20 : iI m 340 20 = -1) (hk : 0 ≤ rdK T L) : O8 fl u T L (B_X8_readBooking_57 fl 340 (oI (rdK T L)) m) := by
  have l30 := h.2.1
  have n0 : ¬ rdK T L < 0 := by omega
  have k2 : rdK T L ≤ 2 := by unfold rdK; repeat' split
                              all_goals omega
  have hL1 : 1 ≤ L := by
    apply Classical.byContradiction
    intro hL
    unfold rdK at hk
    rw [if_neg (fun z => hL (by have := z.1; omega)), if_neg (fun z => hL (by have := z.1; omega)), if_neg (fun z => hL (by have := z.1; omega))] at hk
    omega
  obtain ⟨m0, e0, F0, y0⟩ := stI m 340 19 (v := ((1 : Nat) : Int)) (by omega) (by omega)
  have t0 : TR m0 T L := TR_FG F0 (by omega) h
  have C0 : FG u m0 r8C := FG_trans Fu (FG_mono F0 (by unfold r8C; omega))
  unfold B_X8_readBooking_57 B_X8_readBooking_67
  rw [if_pos (by rw [show (0 : Int32) = oI 0 from rfl, oI_le (by omega) (by omega) (by omega) (by omega)]; exact hk), show gI m 340 19 + 1 = oI ((1 : Nat) : Int) from by rw [gI_oI, h19]; rfl, nx_eq, e0]
  obtain ⟨v1, m1, a1, A1, N1⟩ := X8_num (fl := fl) t0 y0 hL1 (by rw [FG_I F0 (by omega)]; exact h20)
  have C1 : FG u m1 r8C := FG_trans C0 (r8_of A1)
  have t1 : TR m1 T L := TR_FG A1 (by omega) t0
  rw [a1, bd_some]
  dsimp only
  rcases N1 with ⟨h1, rfl, y1, z1⟩ | ⟨h1, z1⟩
  rotate_left
  · have hF : rdF T L = 1 := by unfold rdF; rw [if_neg n0, if_pos h1]
    refine O8_f (m := m1) t1.1 C1 (by rw [z1, hF]; rfl) (by omega) (oI (rdK T L)) v1 0 0 0 ?_
    rw [X8_wants_f (by omega), bd_some, X8_number_f (by omega), bd_some]
    dsimp only
    rw [X8_wants_f (by omega), bd_some, X8_number_f (by omega), bd_some]
    dsimp only
    rw [X8_wants_f (by omega), bd_some, X8_number_f (by omega), bd_some]
  have l1 := nmE_le h1
  obtain ⟨m2, a2, A2, N2⟩ := X8_wan (fl := fl) t1 (p := rq1 T L) y1 l1.1 z1 (ch := 120) (by omega) (by omega)
  have C2 : FG u m2 r8C := FG_trans C1 (r8_of A2)
  have t2 : TR m2 T L := TR_FG A2 (by omega) t1
  rw [show F_X8_wants fl 340 120 m1 = _ from a2, bd_some]
  rcases N2 with ⟨h3, y2, z2⟩ | ⟨h3, z2⟩
  rotate_left
  · have hF : rdF T L = rq1 T L := by unfold rdF; rw [if_neg n0, if_neg (fun z => z h1), if_pos h3]
    refine O8_f (m := m2) t2.1 C2 (by rw [z2, hF]) (by omega) (oI (rdK T L)) (oI (nmV T L 1)) 0 0 0 ?_
    rw [X8_number_f (by omega), bd_some]
    dsimp only
    rw [X8_wants_f (by omega), bd_some, X8_number_f (by omega), bd_some]
    dsimp only
    rw [X8_wants_f (by omega), bd_some, X8_number_f (by omega), bd_some]
  obtain ⟨v3, m3, a3, A3, N3⟩ := X8_num (fl := fl) t2 y2 h3.1 z2
  have C3 : FG u m3 r8C := FG_trans C2 (r8_of A3)
  have t3 : TR m3 T L := TR_FG A3 (by omega) t2
  rw [a3, bd_some]
  dsimp only
  rcases N3 with ⟨h4, rfl, y3, z3⟩ | ⟨h4, z3⟩
  rotate_left
  · have hF : rdF T L = (rq1 T L + 1 : Nat) := by unfold rdF; rw [if_neg n0, if_neg (fun z => z h1), if_neg (fun z => z h3), if_pos h4]
    refine O8_f (m := m3) t3.1 C3 (by rw [z3, hF]) (by omega) (oI (rdK T L)) (oI (nmV T L 1)) v3 0 0 ?_
    rw [X8_wants_f (by omega), bd_some, X8_number_f (by omega), bd_some]
    dsimp only
    rw [X8_wants_f (by omega), bd_some, X8_number_f (by omega), bd_some]
  have l3 := nmE_le h4
  obtain ⟨m4, a4, A4, N4⟩ := X8_wan (fl := fl) t3 (p := rq2 T L) y3 l3.1 z3 (ch := 64) (by omega) (by omega)
  have C4 : FG u m4 r8C := FG_trans C3 (r8_of A4)
  have t4 : TR m4 T L := TR_FG A4 (by omega) t3
  rw [show F_X8_wants fl 340 64 m3 = _ from a4, bd_some]
  rcases N4 with ⟨h5, y4, z4⟩ | ⟨h5, z4⟩
  rotate_left
  · have hF : rdF T L = rq2 T L := by unfold rdF; rw [if_neg n0, if_neg (fun z => z h1), if_neg (fun z => z h3), if_neg (fun z => z h4), if_pos h5]
    refine O8_f (m := m4) t4.1 C4 (by rw [z4, hF]) (by omega) (oI (rdK T L)) (oI (nmV T L 1)) (oI (nmV T L (rq1 T L + 1))) 0 0 ?_
    rw [X8_number_f (by omega), bd_some]
    dsimp only
    rw [X8_wants_f (by omega), bd_some, X8_number_f (by omega), bd_some]
  obtain ⟨v5, m5, a5, A5, N5⟩ := X8_num (fl := fl) t4 y4 h5.1 z4
  have C5 : FG u m5 r8C := FG_trans C4 (r8_of A5)
  have t5 : TR m5 T L := TR_FG A5 (by omega) t4
  rw [a5, bd_some]
  dsimp only
  rcases N5 with ⟨h6, rfl, y5, z5⟩ | ⟨h6, z5⟩
  rotate_left
  · have hF : rdF T L = (rq2 T L + 1 : Nat) := by unfold rdF; rw [if_neg n0, if_neg (fun z => z h1), if_neg (fun z => z h3), if_neg (fun z => z h4), if_neg (fun z => z h5), if_pos h6]
    refine O8_f (m := m5) t5.1 C5 (by rw [z5, hF]) (by omega) (oI (rdK T L)) (oI (nmV T L 1)) (oI (nmV T L (rq1 T L + 1))) v5 0 ?_
    rw [X8_wants_f (by omega), bd_some, X8_number_f (by omega), bd_some]
  have l5 := nmE_le h6
  obtain ⟨m6, a6, A6, N6⟩ := X8_wan (fl := fl) t5 (p := rq3 T L) y5 l5.1 z5 (ch := 43) (by omega) (by omega)
  have C6 : FG u m6 r8C := FG_trans C5 (r8_of A6)
  have t6 : TR m6 T L := TR_FG A6 (by omega) t5
  rw [show F_X8_wants fl 340 43 m5 = _ from a6, bd_some]
  rcases N6 with ⟨h7, y6, z6⟩ | ⟨h7, z6⟩
  rotate_left
  · have hF : rdF T L = rq3 T L := by unfold rdF; rw [if_neg n0, if_neg (fun z => z h1), if_neg (fun z => z h3), if_neg (fun z => z h4), if_neg (fun z => z h5), if_neg (fun z => z h6), if_pos h7]
    refine O8_f (m := m6) t6.1 C6 (by rw [z6, hF]) (by omega) (oI (rdK T L)) (oI (nmV T L 1)) (oI (nmV T L (rq1 T L + 1))) (oI (nmV T L (rq2 T L + 1))) 0 ?_
    rw [X8_number_f (by omega), bd_some]
  obtain ⟨v7, m7, a7, A7, N7⟩ := X8_num (fl := fl) t6 y6 h7.1 z6
  have C7 : FG u m7 r8C := FG_trans C6 (r8_of A7)
  have t7 : TR m7 T L := TR_FG A7 (by omega) t6
  rw [a7, bd_some]
  dsimp only
  rcases N7 with ⟨h8, rfl, y7, z7⟩ | ⟨h8, z7⟩
  rotate_left
  · have hF : rdF T L = (rq3 T L + 1 : Nat) := by unfold rdF; rw [if_neg n0, if_neg (fun z => z h1), if_neg (fun z => z h3), if_neg (fun z => z h4), if_neg (fun z => z h5), if_neg (fun z => z h6), if_neg (fun z => z h7), if_pos h8]
    refine O8_f (m := m7) t7.1 C7 (by rw [z7, hF]) (by omega) (oI (rdK T L)) (oI (nmV T L 1)) (oI (nmV T L (rq1 T L + 1))) (oI (nmV T L (rq2 T L + 1))) v7 ?_
    rfl
  have l7 := nmE_le h8
  have hFp : rdF T L = (if rq4 T L = L then (-1 : Int) else if ¬ sgP T L (rq4 T L) 112 then ((rq4 T L : Nat) : Int) else if ¬ dgP T L (rq4 T L + 1) then ((rq4 T L + 1 : Nat) : Int) else if rq5 T L = L then (-1 : Int) else ((rq5 T L : Nat) : Int)) := by unfold rdF; rw [if_neg n0, if_neg (fun z => z h1), if_neg (fun z => z h3), if_neg (fun z => z h4), if_neg (fun z => z h5), if_neg (fun z => z h6), if_neg (fun z => z h7), if_neg (fun z => z h8)]
  have p7 : iI m7 340 19 = rq4 T L := y7
  have l4 : rq4 T L ≤ L := l7.1
  rw [show gI m7 340 20 = oI (-1) from by rw [gI_oI, z7], if_neg (by decide), show gI m7 340 18 = oI (L : Int) from by rw [gI_oI, t7.2.2.1], show gI m7 340 19 = oI (rq4 T L : Int) from by rw [gI_oI, p7]]
  by_cases h9 : rq4 T L = L
  · rw [if_pos (by rw [oI_le (by omega) (by omega) (by omega) (by omega)]; omega)]
    obtain ⟨m8, b1, b2, b3, b4⟩ := X8_ok (fl := fl) t7.2.2.1 p7 z7 h9 l30 (oI (rdK T L)) (oI (nmV T L 1)) (oI (nmV T L (rq1 T L + 1))) (oI (nmV T L (rq2 T L + 1))) (oI (nmV T L (rq3 T L + 1))) 0
    refine Or.inl ⟨by rw [hFp, if_pos h9], m8, FG_trans C7 b1, b2, b3, ?_⟩
    rw [show rdV T L = 0 from if_pos h9]
    exact b4
  rw [if_neg (by rw [oI_le (by omega) (by omega) (by omega) (by omega)]; omega), X8_here (fl := fl) t7 p7 l4, if_pos (by omega : rq4 T L < L), bd_some]
  rw [if_neg h9] at hFp
  have bT := t7.2.2.2.2 (rq4 T L)
  by_cases h10 : T (rq4 T L) = 112
  case neg =>
    rw [if_pos (fun z => h10 z.2)] at hFp
    rw [if_neg (by rw [show (112 : Int32) = oI 112 from rfl, oI_eq (by omega) (by omega) (by omega) (by omega)]; exact h10)]
    obtain ⟨m8, b1, b2, b3, b4⟩ := X8_trail (fl := fl) t7.1 t7.2.2.1 p7 z7 (by omega) l30 (oI (rdK T L)) (oI (nmV T L 1)) (oI (nmV T L (rq1 T L + 1))) (oI (nmV T L (rq2 T L + 1))) (oI (nmV T L (rq3 T L + 1))) 0
    exact Or.inr ⟨by omega, m8, FG_trans C7 b1, b2, by rw [b3, hFp], b4⟩
  rw [if_neg (fun z => z ⟨by omega, h10⟩)] at hFp
  obtain ⟨m8, e8, F8, y8⟩ := stI m7 340 19 (v := ((rq4 T L + 1 : Nat) : Int)) (by omega) (by omega)
  have t8 : TR m8 T L := TR_FG F8 (by omega) t7
  have C8 : FG u m8 r8C := FG_trans C7 (FG_mono F8 (by unfold r8C; omega))
  rw [if_pos (show oI (T (rq4 T L)) = 112 from congrArg oI h10), show oI (rq4 T L : Int) + 1 = oI ((rq4 T L + 1 : Nat) : Int) from by rw [oI_lit, oI_add]; rfl, nx_eq, e8]
  obtain ⟨v9, m9, a9, A9, N9⟩ := X8_num (fl := fl) t8 y8 (by omega) (by rw [FG_I F8 (by omega)]; exact z7)
  have C9 : FG u m9 r8C := FG_trans C8 (r8_of A9)
  have t9 : TR m9 T L := TR_FG A9 (by omega) t8
  rw [a9, bd_some]
  dsimp only
  rcases N9 with ⟨h11, rfl, y9, z9⟩ | ⟨h11, z9⟩
  rotate_left
  · rw [if_pos h11] at hFp
    obtain ⟨m10, b1, b2, b3, b4⟩ := X8_fin (fl := fl) t9.1 z9 (by omega) (oI (rdK T L)) (oI (nmV T L 1)) (oI (nmV T L (rq1 T L + 1))) (oI (nmV T L (rq2 T L + 1))) (oI (nmV T L (rq3 T L + 1))) v9
    exact Or.inr ⟨by omega, m10, FG_trans C9 b1, b2, by rw [b3, hFp], b4⟩
  rw [if_neg (fun z => z h11)] at hFp
  have l9 := nmE_le h11
  have p9 : iI m9 340 19 = rq5 T L := y9
  have l5' : rq5 T L ≤ L := l9.1
  by_cases h12 : rq5 T L = L
  · obtain ⟨m10, b1, b2, b3, b4⟩ := X8_ok (fl := fl) t9.2.2.1 p9 z9 h12 l30 (oI (rdK T L)) (oI (nmV T L 1)) (oI (nmV T L (rq1 T L + 1))) (oI (nmV T L (rq2 T L + 1))) (oI (nmV T L (rq3 T L + 1))) (oI (nmV T L (rq4 T L + 1)))
    refine Or.inl ⟨by rw [hFp, if_pos h12], m10, FG_trans C9 b1, b2, b3, ?_⟩
    rw [show rdV T L = nmV T L (rq4 T L + 1) from if_neg h9]
    exact b4
  · rw [if_neg h12] at hFp
    obtain ⟨m10, b1, b2, b3, b4⟩ := X8_trail (fl := fl) t9.1 t9.2.2.1 p9 z9 (by omega) l30 (oI (rdK T L)) (oI (nmV T L 1)) (oI (nmV T L (rq1 T L + 1))) (oI (nmV T L (rq2 T L + 1))) (oI (nmV T L (rq3 T L + 1))) (oI (nmV T L (rq4 T L + 1)))
    exact Or.inr ⟨by omega, m10, FG_trans C9 b1, b2, by rw [b3, hFp], b4⟩
