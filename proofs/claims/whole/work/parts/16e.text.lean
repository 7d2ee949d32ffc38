def rdN (s : Mem) (T : Nat → Int) (L : Nat) : Prop := iI s 336 4 = rdK T L ∧ iI s 338 0 = nmV T L 1 ∧ iI s 338 1 = nmV T L (rq1 T L + 1) ∧ iI s 338 2 = nmV T L (rq2 T L + 1) ∧ iI s 338 3 = nmV T L (rq3 T L + 1) ∧ iI s 338 4 = rdV T L
def raC (k j : Nat) : Prop := k = 336 ∧ (j = 2 ∨ j = 4) ∨ k = 338
theorem X0_readAll {fl : Nat} {s : Mem} {T : Nat → Int} {L : Nat} (h : TC s T L) (h2 : iI s 336 2 = (0 : Nat)) : ∃ b s', F_X0_readAll fl 336 s = some (b, s') ∧ FG s s' raC ∧ ((b = 1 ∧ rdF T L = -1 ∧ rdN s' T L) ∨ (b = 0 ∧ 0 ≤ rdF T L ∧ iI s' 336 2 = rdF T L)) := by
  obtain ⟨s0, a0, A0, y0, z0⟩ := X0_kind (fl := fl) h h2
  have t0 : TC s0 T L := TC_FG A0 (by omega) h
  have C0 : FG s s0 raC := FG_mono A0 (by unfold raC; omega)
  unfold F_X0_readAll
  rw [a0, bd_some]
  dsimp only
  by_cases hk : 0 ≤ rdK T L
  case neg =>
    have hF : rdF T L = 0 := if_pos (by omega)
    rw [ifB_f hk]
    refine ⟨0, s0, rfl, C0, Or.inr ⟨rfl, by omega, ?_⟩⟩
    rw [y0, if_neg hk, hF]
  rw [ifB_t hk]
  rw [if_pos hk] at y0
  have n0 : ¬ rdK T L < 0 := by omega
  by_cases h1 : dgP T L 1
  case neg =>
    have hF : rdF T L = 1 := by unfold rdF; rw [if_neg n0, if_pos h1]
    by_cases hL : 1 ≤ L
    · rw [X0_number_n (fl := fl) t0 (p := 1) y0 hL h1, bd_some]
      exact ⟨0, s0, rfl, C0, Or.inr ⟨rfl, by omega, by rw [y0, hF]⟩⟩
    · exfalso
      unfold rdK at hk
      rw [if_neg (fun z => hL (by have := z.1; omega)), if_neg (fun z => hL (by have := z.1; omega)), if_neg (fun z => hL (by have := z.1; omega))] at hk
      omega
  obtain ⟨s1, a1, A1, y1, z1⟩ := X0_number_y (fl := fl) t0 (p := 1) y0 h1 (i := 0) (by omega)
  have t1 : TC s1 T L := TC_FG A1 (by omega) t0
  have C1 : FG s s1 raC := FG_trans C0 (FG_mono A1 (by unfold raC; omega))
  have l1 := nmE_le h1
  rw [show F_X0_readNumber fl 336 0 s0 = _ from a1, bd_some]
  dsimp only
  rw [if_neg (by decide)]
  by_cases h3 : sgP T L (rq1 T L) 120
  case neg =>
    have hF : rdF T L = rq1 T L := by unfold rdF; rw [if_neg n0, if_neg (fun z => z h1), if_pos h3]
    rw [show F_X0_readSign fl 336 120 s1 = _ from X0_sign_n (fl := fl) t1 (p := rq1 T L) y1 l1.1 (ch := 120) (by omega) (by omega) h3, bd_some]
    exact ⟨0, s1, rfl, C1, Or.inr ⟨rfl, by omega, by rw [y1, hF]; rfl⟩⟩
  obtain ⟨s2, a2, A2, y2⟩ := X0_sign_y (fl := fl) t1 (p := rq1 T L) y1 h3.1 (ch := 120) (by omega) (by omega) h3.2
  have t2 : TC s2 T L := TC_FG A2 (by omega) t1
  have C2 : FG s s2 raC := FG_trans C1 (FG_mono A2 (by unfold raC; omega))
  rw [show F_X0_readSign fl 336 120 s1 = _ from a2, bd_some]
  dsimp only
  rw [if_neg (by decide)]
  by_cases h4 : dgP T L (rq1 T L + 1)
  case neg =>
    have hF : rdF T L = (rq1 T L + 1 : Nat) := by unfold rdF; rw [if_neg n0, if_neg (fun z => z h1), if_neg (fun z => z h3), if_pos h4]
    rw [X0_number_n (fl := fl) t2 (p := rq1 T L + 1) y2 h3.1 h4, bd_some]
    exact ⟨0, s2, rfl, C2, Or.inr ⟨rfl, by omega, by rw [y2, hF]⟩⟩
  obtain ⟨s3, a3, A3, y3, z3⟩ := X0_number_y (fl := fl) t2 (p := rq1 T L + 1) y2 h4 (i := 1) (by omega)
  have t3 : TC s3 T L := TC_FG A3 (by omega) t2
  have C3 : FG s s3 raC := FG_trans C2 (FG_mono A3 (by unfold raC; omega))
  have l3 := nmE_le h4
  rw [show F_X0_readNumber fl 336 1 s2 = _ from a3, bd_some]
  dsimp only
  rw [if_neg (by decide)]
  by_cases h5 : sgP T L (rq2 T L) 64
  case neg =>
    have hF : rdF T L = rq2 T L := by unfold rdF; rw [if_neg n0, if_neg (fun z => z h1), if_neg (fun z => z h3), if_neg (fun z => z h4), if_pos h5]
    rw [show F_X0_readSign fl 336 64 s3 = _ from X0_sign_n (fl := fl) t3 (p := rq2 T L) y3 l3.1 (ch := 64) (by omega) (by omega) h5, bd_some]
    exact ⟨0, s3, rfl, C3, Or.inr ⟨rfl, by omega, by rw [y3, hF]; rfl⟩⟩
  obtain ⟨s4, a4, A4, y4⟩ := X0_sign_y (fl := fl) t3 (p := rq2 T L) y3 h5.1 (ch := 64) (by omega) (by omega) h5.2
  have t4 : TC s4 T L := TC_FG A4 (by omega) t3
  have C4 : FG s s4 raC := FG_trans C3 (FG_mono A4 (by unfold raC; omega))
  rw [show F_X0_readSign fl 336 64 s3 = _ from a4, bd_some]
  dsimp only
  rw [if_neg (by decide)]
  by_cases h6 : dgP T L (rq2 T L + 1)
  case neg =>
    have hF : rdF T L = (rq2 T L + 1 : Nat) := by unfold rdF; rw [if_neg n0, if_neg (fun z => z h1), if_neg (fun z => z h3), if_neg (fun z => z h4), if_neg (fun z => z h5), if_pos h6]
    rw [X0_number_n (fl := fl) t4 (p := rq2 T L + 1) y4 h5.1 h6, bd_some]
    exact ⟨0, s4, rfl, C4, Or.inr ⟨rfl, by omega, by rw [y4, hF]⟩⟩
  obtain ⟨s5, a5, A5, y5, z5⟩ := X0_number_y (fl := fl) t4 (p := rq2 T L + 1) y4 h6 (i := 2) (by omega)
  have t5 : TC s5 T L := TC_FG A5 (by omega) t4
  have C5 : FG s s5 raC := FG_trans C4 (FG_mono A5 (by unfold raC; omega))
  have l5 := nmE_le h6
  rw [show F_X0_readNumber fl 336 2 s4 = _ from a5, bd_some]
  dsimp only
  rw [if_neg (by decide)]
  by_cases h7 : sgP T L (rq3 T L) 43
  case neg =>
    have hF : rdF T L = rq3 T L := by unfold rdF; rw [if_neg n0, if_neg (fun z => z h1), if_neg (fun z => z h3), if_neg (fun z => z h4), if_neg (fun z => z h5), if_neg (fun z => z h6), if_pos h7]
    rw [show F_X0_readSign fl 336 43 s5 = _ from X0_sign_n (fl := fl) t5 (p := rq3 T L) y5 l5.1 (ch := 43) (by omega) (by omega) h7, bd_some]
    exact ⟨0, s5, rfl, C5, Or.inr ⟨rfl, by omega, by rw [y5, hF]; rfl⟩⟩
  obtain ⟨s6, a6, A6, y6⟩ := X0_sign_y (fl := fl) t5 (p := rq3 T L) y5 h7.1 (ch := 43) (by omega) (by omega) h7.2
  have t6 : TC s6 T L := TC_FG A6 (by omega) t5
  have C6 : FG s s6 raC := FG_trans C5 (FG_mono A6 (by unfold raC; omega))
  rw [show F_X0_readSign fl 336 43 s5 = _ from a6, bd_some]
  dsimp only
  rw [if_neg (by decide)]
  by_cases h8 : dgP T L (rq3 T L + 1)
  case neg =>
    have hF : rdF T L = (rq3 T L + 1 : Nat) := by unfold rdF; rw [if_neg n0, if_neg (fun z => z h1), if_neg (fun z => z h3), if_neg (fun z => z h4), if_neg (fun z => z h5), if_neg (fun z => z h6), if_neg (fun z => z h7), if_pos h8]
    rw [X0_number_n (fl := fl) t6 (p := rq3 T L + 1) y6 h7.1 h8, bd_some]
    exact ⟨0, s6, rfl, C6, Or.inr ⟨rfl, by omega, by rw [y6, hF]⟩⟩
  obtain ⟨s7, a7, A7, y7, z7⟩ := X0_number_y (fl := fl) t6 (p := rq3 T L + 1) y6 h8 (i := 3) (by omega)
  have t7 : TC s7 T L := TC_FG A7 (by omega) t6
  have C7 : FG s s7 raC := FG_trans C6 (FG_mono A7 (by unfold raC; omega))
  have l7 := nmE_le h8
  rw [show F_X0_readNumber fl 336 3 s6 = _ from a7, bd_some]
  dsimp only
  rw [if_neg (by decide)]
  have l30 := h.2.1
  have hFp : rdF T L = (if rq4 T L = L then (-1 : Int) else if ¬ sgP T L (rq4 T L) 112 then ((rq4 T L : Nat) : Int) else if ¬ dgP T L (rq4 T L + 1) then ((rq4 T L + 1 : Nat) : Int) else if rq5 T L = L then (-1 : Int) else ((rq5 T L : Nat) : Int)) := by unfold rdF; rw [if_neg n0, if_neg (fun z => z h1), if_neg (fun z => z h3), if_neg (fun z => z h4), if_neg (fun z => z h5), if_neg (fun z => z h6), if_neg (fun z => z h7), if_neg (fun z => z h8)]
  -- the numbers so far, in any state that keeps them
  obtain ⟨s8, a8, A8, y8⟩ := stI s7 338 4 (v := 0) (by omega) (by omega)
  have t8 : TC s8 T L := TC_FG A8 (by omega) t7
  have C8 : FG s s8 raC := FG_trans C7 (FG_mono A8 (by unfold raC; omega))
  have p8 : iI s8 336 2 = rq4 T L := by rw [FG_I A8 (by omega), y7]; rfl
  have nums : ∀ s', FG s7 s' (fun k j => k = 336 ∧ j = 2 ∨ k = 338 ∧ j = 4) → iI s' 338 4 = rdV T L → rdN s' T L := fun s' F hv => by
    refine ⟨?_, ?_, ?_, ?_, ?_, hv⟩
    · rw [FG_I F (by omega), FG_I A7 (by omega), FG_I A6 (by omega), FG_I A5 (by omega), FG_I A4 (by omega), FG_I A3 (by omega), FG_I A2 (by omega), FG_I A1 (by omega)]; exact z0 hk
    · rw [FG_I F (by omega), FG_I A7 (by omega), FG_I A6 (by omega), FG_I A5 (by omega), FG_I A4 (by omega), FG_I A3 (by omega), FG_I A2 (by omega)]; exact z1
    · rw [FG_I F (by omega), FG_I A7 (by omega), FG_I A6 (by omega), FG_I A5 (by omega), FG_I A4 (by omega)]; exact z3
    · rw [FG_I F (by omega), FG_I A7 (by omega), FG_I A6 (by omega)]; exact z5
    · rw [FG_I F (by omega)]; exact z7
  have gL1 : ∀ s', TC s' T L → gI s' 336 1 = oI (L : Int) := fun s' t => by rw [gI_oI, t.2.2.1]
  unfold F_X0_readPower
  rw [ld_336_5 t7.1, bd_some, gd_t (by decide), nx_eq]
  dsimp only
  rw [show pI s7 338 (4 : Int32).toNatClampNeg 0 = s8 from a8, show gI s8 336 2 = oI (rq4 T L : Int) from by rw [gI_oI, p8], gL1 s8 t8]
  have l4 : rq4 T L ≤ L := l7.1
  by_cases h9 : rq4 T L = L
  · rw [if_pos (by rw [h9]), bd_some]
    dsimp only
    rw [if_neg (by decide), show gI s8 336 2 = oI (rq4 T L : Int) from by rw [gI_oI, p8], gL1 s8 t8, if_pos (by rw [h9])]
    exact ⟨1, s8, rfl, C8, Or.inl ⟨rfl, by rw [hFp, if_pos h9], nums s8 (FG_mono A8 (by omega)) (by rw [y8]; unfold rdV; rw [if_pos h9])⟩⟩
  rw [if_neg (by rw [oI_eq (by omega) (by omega) (by omega) (by omega)]; omega)]
  rw [if_neg h9] at hFp
  by_cases h10 : sgP T L (rq4 T L) 112
  case neg =>
    rw [if_pos h10] at hFp
    rw [show F_X0_readSign fl 336 112 s8 = _ from X0_sign_n (fl := fl) t8 (p := rq4 T L) p8 l4 (ch := 112) (by omega) (by omega) h10, bd_some]
    exact ⟨0, s8, rfl, C8, Or.inr ⟨rfl, by omega, by rw [p8, hFp]⟩⟩
  rw [if_neg (fun z => z h10)] at hFp
  obtain ⟨s9, a9, A9, y9⟩ := X0_sign_y (fl := fl) t8 (p := rq4 T L) p8 h10.1 (ch := 112) (by omega) (by omega) h10.2
  have t9 : TC s9 T L := TC_FG A9 (by omega) t8
  have C9 : FG s s9 raC := FG_trans C8 (FG_mono A9 (by unfold raC; omega))
  rw [show F_X0_readSign fl 336 112 s8 = _ from a9, bd_some]
  dsimp only
  rw [if_neg (by decide)]
  by_cases h11 : dgP T L (rq4 T L + 1)
  case neg =>
    rw [if_pos h11] at hFp
    rw [X0_number_n (fl := fl) t9 (p := rq4 T L + 1) y9 h10.1 h11, bd_some]
    exact ⟨0, s9, rfl, C9, Or.inr ⟨rfl, by omega, by rw [y9, hFp]⟩⟩
  rw [if_neg (fun z => z h11)] at hFp
  obtain ⟨s10, a10, A10, y10, z10⟩ := X0_number_y (fl := fl) t9 (p := rq4 T L + 1) y9 h11 (i := 4) (by omega)
  have t10 : TC s10 T L := TC_FG A10 (by omega) t9
  have C10 : FG s s10 raC := FG_trans C9 (FG_mono A10 (by unfold raC; omega))
  have l10 := nmE_le h11
  have p10 : iI s10 336 2 = rq5 T L := y10
  have l5' : rq5 T L ≤ L := l10.1
  rw [show F_X0_readNumber fl 336 4 s9 = _ from a10, bd_some]
  dsimp only
  rw [if_neg (by decide), bd_some]
  dsimp only
  rw [if_neg (by decide), show gI s10 336 2 = oI (rq5 T L : Int) from by rw [gI_oI, p10], gL1 s10 t10]
  by_cases h12 : rq5 T L = L
  · rw [if_pos (by rw [h12])]
    exact ⟨1, s10, rfl, C10, Or.inl ⟨rfl, by rw [hFp, if_pos h12], nums s10 (FG_trans (FG_mono A8 (by omega)) (FG_trans (FG_mono A9 (by omega)) (FG_mono A10 (by omega)))) (by rw [z10]; unfold rdV; rw [if_neg h9])⟩⟩
  · rw [if_neg (by rw [oI_eq (by omega) (by omega) (by omega) (by omega)]; omega)]
    rw [if_neg h12] at hFp
    exact ⟨0, s10, rfl, C10, Or.inr ⟨rfl, by omega, by rw [p10, hFp]⟩⟩
