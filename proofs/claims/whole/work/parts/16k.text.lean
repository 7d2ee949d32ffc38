-- reading a booking
theorem rdF_le {T : Nat → Int} {L : Nat} : rdF T L ≤ L := by
  unfold rdF
  by_cases h0 : rdK T L < 0
  · rw [if_pos h0]; omega
  rw [if_neg h0]
  have hL1 : 1 ≤ L := by
    apply Classical.byContradiction
    intro hL
    apply h0
    unfold rdK
    rw [if_neg (fun z => hL (by have := z.1; omega)), if_neg (fun z => hL (by have := z.1; omega)), if_neg (fun z => hL (by have := z.1; omega))]
    omega
  by_cases h1 : dgP T L 1
  case neg => rw [if_pos h1]; omega
  rw [if_neg (fun z => z h1)]
  have l1 : rq1 T L ≤ L := (nmE_le h1).1
  by_cases h3 : sgP T L (rq1 T L) 120
  case neg => rw [if_pos h3]; omega
  rw [if_neg (fun z => z h3)]
  have g1 := h3.1
  by_cases h4 : dgP T L (rq1 T L + 1)
  case neg => rw [if_pos h4]; omega
  rw [if_neg (fun z => z h4)]
  have l2 : rq2 T L ≤ L := (nmE_le h4).1
  by_cases h5 : sgP T L (rq2 T L) 64
  case neg => rw [if_pos h5]; omega
  rw [if_neg (fun z => z h5)]
  have g2 := h5.1
  by_cases h6 : dgP T L (rq2 T L + 1)
  case neg => rw [if_pos h6]; omega
  rw [if_neg (fun z => z h6)]
  have l3 : rq3 T L ≤ L := (nmE_le h6).1
  by_cases h7 : sgP T L (rq3 T L) 43
  case neg => rw [if_pos h7]; omega
  rw [if_neg (fun z => z h7)]
  have g3 := h7.1
  by_cases h8 : dgP T L (rq3 T L + 1)
  case neg => rw [if_pos h8]; omega
  rw [if_neg (fun z => z h8)]
  have l4 : rq4 T L ≤ L := (nmE_le h8).1
  by_cases h9 : rq4 T L = L
  · rw [if_pos h9]; omega
  rw [if_neg h9]
  by_cases h10 : sgP T L (rq4 T L) 112
  case neg => rw [if_pos h10]; omega
  rw [if_neg (fun z => z h10)]
  have g4 := h10.1
  by_cases h11 : dgP T L (rq4 T L + 1)
  case neg => rw [if_pos h11]; omega
  rw [if_neg (fun z => z h11)]
  have l5 : rq5 T L ≤ L := (nmE_le h11).1
  by_cases h12 : rq5 T L = L
  · rw [if_pos h12]; omega
  rw [if_neg h12]; omega
theorem O8_all {fl : Nat} {u : Mem} {T : Nat → Int} {L : Nat} (h : TR u T L) : O8 fl u T L (F_X8_readBooking fl 340 u) := by
  obtain ⟨m, a, t, y, z, e⟩ := X8_kind (fl := fl) h
  rw [e]
  by_cases hk : 0 ≤ rdK T L
  · exact X8_67 a t y z hk
  · exact X8_67k a t y z (by omega)
def rdC (k j : Nat) : Prop := ctC k j ∨ k = 336 ∨ k = 338
theorem InvB_rd {s s' : Mem} (h : FG s s' rdC) (hI : InvB s) : InvB s' := by
  obtain ⟨hs, h1, h2, ⟨c, m, h3⟩, h4, h5, h6⟩ := hI
  exact ⟨FG_RO h hs, Cst_FG h (by unfold rdC ctC scC; omega) h1, Cmp_FG h (by unfold rdC ctC scC; omega) h2, ⟨c, m, Hist_FG h (by unfold rdC ctC scC; omega) h3⟩, Snp_FG h (by unfold rdC ctC scC; omega) h4, Rsn_FG h (by unfold rdC ctC scC; omega) h5, Lat_FG h (by unfold rdC ctC scC; omega) h6⟩
theorem LM_readBooking {fl : Nat} (hfl : 1000 ≤ fl) {s : Mem} (hI : Inv s) : Ans (F_L_readBooking fl 320 350) (F_X8_readBooking fl 340) s := by
  have hI' := hI
  obtain ⟨hs, -, -, -, -, -, -, ⟨⟨t1, t2, t3⟩, -, t5⟩⟩ := hI'
  obtain ⟨L, hL⟩ : ∃ L : Nat, iI s 340 18 = L := ⟨(iI s 340 18).toNat, by omega⟩
  have l30 : L ≤ 30 := by omega
  obtain ⟨T, hT⟩ : ∃ T : Nat → Int, T = fun k => if k < L then iI s 349 k else 0 := ⟨_, rfl⟩
  have hTk : ∀ k, k < L → T k = iI s 349 k := fun k hk => by rw [hT]; exact if_pos hk
  have hTb : ∀ k, 0 ≤ T k ∧ T k < 65536 := fun k => by
    by_cases hk : k < L
    · rw [hTk k hk]; exact (t5 k (by omega) (by omega)).2
    · have e : T k = 0 := by rw [hT]; exact if_neg hk
      rw [e]; omega
  have tc : TC s T L := ⟨hs, l30, by rw [t1, hL], fun k hk => by rw [hTk k hk]; exact (t5 k (by omega) (by omega)).1, hTb⟩
  have tr : ∀ u, FG s u (fun k j => ¬ (k = 340 ∧ j = 18) ∧ k ≠ 349) → TR u T L := fun u F => ⟨FG_RO F hs, l30, by rw [FG_I F (by omega)]; exact hL, fun k hk => by rw [FG_I F (by omega), hTk k hk], hTb⟩
  obtain ⟨s1, p1, F1, p2, p3, p4⟩ := X0_parse (fl := fl) tc
  have hs1 := FG_RO F1 hs
  have I1 : InvB s1 := InvB_rd (FG_mono F1 (fun k j z => Or.inr z)) (InvB_of hI)
  have le := rdF_le (T := T) (L := L)
  rcases O8_all (fl := fl) (tr s1 (FG_mono F1 (by omega))) with ⟨hF, -⟩ | ⟨hF, m3, g1, g2, g3, g4⟩
  rotate_left
  · have q1 : F_X7_readBooking fl 320 s = some (.inl 1, s1) := by
      unfold F_X7_readBooking
      rw [ld_320_5 hs, bd_some, p1, bd_some]
      dsimp only
      rw [ifB_f (show ¬ rdF T L = -1 by omega)]
    obtain ⟨s2, e2, F2, y2⟩ := stI m3 340 0 (v := ((1 : Nat) : Int)) (by omega) (by omega)
    have A : FG s1 s2 rdC := FG_trans (FG_mono g1 (fun k j z => Or.inl (Or.inr z))) (FG_mono F2 (fun k j z => Or.inl (Or.inl (Or.inl (by omega)))))
    have a1 : iI s2 336 1 = 0 := by rw [FG_I F2 (by omega), FG_I g1 (by unfold r8C; omega)]; exact p2
    have a3 : iI s2 336 3 = rdF T L := by rw [FG_I F2 (by omega), FG_I g1 (by unfold r8C; omega)]; exact p3
    have a18 : iI s2 340 18 = 0 := by rw [FG_I F2 (by omega)]; exact g2
    have a21 : iI s2 340 21 = rdF T L := by rw [FG_I F2 (by omega)]; exact g3
    refine ⟨oI (1 : Nat), s1, 0, s2, L_readBooking_1 q1, g4.trans (by rw [show pI m3 340 0 1 = s2 from e2]), by rw [gI_oI, y2], fun z => ?_, Inv_of (InvB_rd A I1) ⟨⟨by omega, by omega, by omega⟩, ⟨by omega, by omega, by omega⟩, fun k k1 k2 => by omega⟩⟩
    exact absurd z (by decide)
  · obtain ⟨n0, n1, n2, n3, n4, n5⟩ := p4 hF
    have b0 := And.intro (iI_lo s1 336 4) (iI_hi s1 336 4)
    have b1 := And.intro (iI_lo s1 338 0) (iI_hi s1 338 0)
    have b2 := And.intro (iI_lo s1 338 1) (iI_hi s1 338 1)
    have b3 := And.intro (iI_lo s1 338 2) (iI_hi s1 338 2)
    have b4 := And.intro (iI_lo s1 338 3) (iI_hi s1 338 3)
    have b5 := And.intro (iI_lo s1 338 4) (iI_hi s1 338 4)
    rw [n0] at b0
    rw [n1] at b1
    rw [n2] at b2
    rw [n3] at b3
    rw [n4] at b4
    rw [n5] at b5
    obtain ⟨out, s3, x1, x2, x3, x4⟩ := book_core hfl I1 (kd := rdK T L) (ln := nmV T L 1) (br := nmV T L (rq1 T L + 1)) (pw := rdV T L) (f := nmV T L (rq2 T L + 1)) (n := nmV T L (rq3 T L + 1)) (by omega) (by omega) (by omega) (by omega) (by omega) (by omega) (by omega) (by omega) (by omega) (by omega) (by omega) (by omega)
    have q : F_X7_readBooking fl 320 s = xb (out, s3) (fun x19 s20 => some (.inr x19, s20)) := by
      unfold F_X7_readBooking
      rw [ld_320_5 hs, bd_some, p1, bd_some]
      dsimp only
      rw [ifB_t hF, ld_320_5 hs1, bd_some, ld_336_5 hs1, bd_some, bd_some]
      dsimp only
      rw [gd_t (by decide), gd_t (by decide), gd_t (by decide), gd_t (by decide), gd_t (by decide), show gI s1 336 4 = oI (rdK T L) from by rw [gI_oI, n0], show gI s1 338 (0 : Int32).toNatClampNeg = oI (nmV T L 1) from by rw [gI_oI]; exact congrArg oI n1, show gI s1 338 (1 : Int32).toNatClampNeg = oI (nmV T L (rq1 T L + 1)) from by rw [gI_oI]; exact congrArg oI n2, show gI s1 338 (4 : Int32).toNatClampNeg = oI (rdV T L) from by rw [gI_oI]; exact congrArg oI n5, show gI s1 338 (2 : Int32).toNatClampNeg = oI (nmV T L (rq2 T L + 1)) from by rw [gI_oI]; exact congrArg oI n3, show gI s1 338 (3 : Int32).toNatClampNeg = oI (nmV T L (rq3 T L + 1)) from by rw [gI_oI]; exact congrArg oI n4, x1, bd_some]
    have fin : ∀ u, FG s3 u (fun k j => k = 350) → ∃ v s2, F_X8_readBooking fl 340 u = some (v, s2) ∧ FG u s2 (fun k j => k < 350) ∧ iI s2 340 0 = bcode out ∧ (∀ w, out = .inr w → v = w) ∧ Inv s2 := fun u Fu => by
      rcases O8_all (fl := fl) (tr u (FG_trans (FG_mono F1 (by omega)) (FG_trans (FG_mono x3 (by unfold bkC; omega)) (FG_mono Fu (by omega))))) with ⟨-, m3, g1, g2, g3, g4⟩ | ⟨hF', -⟩
      · obtain ⟨v, s2, y1, y2, y3, y4, y5⟩ := x4 m3 (FG_trans (FG_mono Fu (fun k j z => Or.inl (by unfold scC; omega))) (FG_mono g1 (fun k j z => Or.inr z)))
        have a1 : iI s2 336 1 = 0 := by rw [FG_I y2 (by unfold rbC; omega), FG_I g1 (by unfold r8C; omega), FG_I Fu (by omega), FG_I x3 (by unfold bkC; omega)]; exact p2
        have a3 : iI s2 336 3 = -1 := by rw [FG_I y2 (by unfold rbC; omega), FG_I g1 (by unfold r8C; omega), FG_I Fu (by omega), FG_I x3 (by unfold bkC; omega), p3, hF]
        have a18 : iI s2 340 18 = 0 := by rw [FG_I y2 (by unfold rbC; omega)]; exact g2
        have a21 : iI s2 340 21 = -1 := by rw [FG_I y2 (by unfold rbC; omega)]; exact g3
        refine ⟨v, s2, by rw [g4, y1, bd_some], FG_trans (FG_mono g1 (by unfold r8C; omega)) (FG_mono y2 (by unfold rbC; omega)), y3, y4, Inv_of y5 ⟨⟨by omega, by omega, by omega⟩, ⟨by omega, by omega, by omega⟩, fun k k1 k2 => by omega⟩⟩
      · omega
    have no : ∀ (c : Nat), 1 ≤ c → c < 9 → F_L_readBooking fl 320 350 s = some (oI (c : Nat), s3) → bcode out = c → Ans (F_L_readBooking fl 320 350) (F_X8_readBooking fl 340) s := fun c h1 h2 hLL hb => by
      obtain ⟨v, s2, y1, y2, y3, y4, y5⟩ := fin s3 (FG_refl _ _)
      refine ⟨oI (c : Nat), s3, v, s2, hLL, y1, by rw [gI_oI, y3, hb], fun z => ?_, y5⟩
      exfalso
      rw [oI_lit, oI_eq (by omega) (by omega) (by decide) (by decide)] at z
      have h' : (c : Int) = 0 := z
      omega
    rcases x2 with rfl | rfl | rfl | ⟨w, rfl⟩
    · exact no 1 (by omega) (by omega) (L_readBooking_1 q) rfl
    · exact no 2 (by omega) (by omega) (L_readBooking_2 q) rfl
    · exact no 3 (by omega) (by omega) (L_readBooking_3 q) rfl
    · have Fp : FG s3 (pL s3 350 0 (Int32.toInt64 w)) (fun k j => k = 350) := FG_pL _ _ _ _ rfl
      obtain ⟨v, s2, y1, y2, y3, y4, y5⟩ := fin _ Fp
      have hvw := y4 w rfl
      subst hvw
      refine ⟨oI (0 : Nat), _, v, s2, L_readBooking_v q, y1, by rw [gI_oI, y3]; rfl, fun _ => ?_, y5⟩
      rw [FG_L y2 (by omega), gL_p, if_pos ⟨rfl, rfl⟩]
