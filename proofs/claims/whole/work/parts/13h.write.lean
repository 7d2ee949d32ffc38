-- a party moved
theorem LM_move {fl : Nat} (hfl : 1000 ≤ fl) {s : Mem} (hI : Inv s) {a b : Int} (a1 : -2147483648 ≤ a) (a2 : a < 2147483648) (b1 : -2147483648 ≤ b) (b2 : b < 2147483648) : Ans (F_L_move fl 320 (oI a) (oI b) 350) (F_X8_move fl 340 (oI a) (oI b)) s := by
  have hI' := hI
  obtain ⟨hs, -, ⟨hv, hc⟩, -⟩ := hI'
  have bn := VRn hv
  unfold VN at bn
  by_cases ha : 0 ≤ a ∧ a < iI s 341 1
  · by_cases hb : 0 ≤ b ∧ b < iI s 341 0
    · obtain ⟨x, rfl⟩ : ∃ x : Nat, a = x := ⟨a.toNat, by omega⟩
      obtain ⟨p, rfl⟩ : ∃ p : Nat, b = p := ⟨b.toNat, by omega⟩
      have dq := VRq hv (q := x) (by omega)
      unfold VQ at dq
      have st := X1_isStill (fl := fl) hc (9 + x)
      rw [c_q10 hc ha.2, c_q hc ha.2 (by decide)] at st
      have e7 : gI s (9 + x) 7 = oI (iI s 341 (50 + 10 * x + 6)) := by rw [gI_oI, c_q7 hc ha.2]
      have hd : ∀ (f : Nat → Mem → Option ((Nat ⊕ Int32) × Mem)), (bd (F_X7_requireParty fl 320 (oI x) s) fun q1 => xb q1 fun u9 s3 => bd (F_X7_requirePitch fl 320 (oI p) s3) fun q7 => xb q7 fun u9 s9 => bd (ldO s9 320 1 3) fun r13 => bd (ldA s9 r13 2 5) fun r15 => gd (inR (oI x) r15.2) <| bd (ldO s9 r15.1 (oI x).toNatClampNeg 5) fun r18 => f r18 s9) = f (9 + x) s := fun f => by
        rw [rqQ_y hs hc (by omega) (by omega) (by omega) ha, bd_some, xb_r, rqP_y hs hc (by omega) (by omega) hb, bd_some, xb_r, ld_320_1 hs, bd_some, ld_02 hs, bd_some]
        dsimp only
        rw [gd_t ((oI_inR (by omega) (by omega)).mpr (by omega)), ldQ hs (by omega), bd_some]
      by_cases hst : (iI s 341 (50 + 10 * x + 8) ≠ 0 ∧ iI s 341 3 ≤ iI s 341 (50 + 10 * x + 4)) ∧ iI s 341 (50 + 10 * x + 6) ≠ p
      · obtain ⟨v, v0, v5, hdis, hcl, href⟩ := obPair hfl hI ha.2 hb.2
        have wv : F_X7_isWithin fl (oI v) 1 3 s = some (oB (1 ≤ v ∧ v ≤ 3)) := X7_isWithin (v := v) (a := 1) (b := 3) (by omega) (by omega) (by omega) (by omega) (by omega) (by omega)
        have wv8 : ∀ s', F_X8_in fl (oI v) 1 3 s' = some (oB (1 ≤ v ∧ v ≤ 3)) := fun s' => X8_in (v := v) (a := 1) (b := 3) (by omega) (by omega) (by omega) (by omega) (by omega) (by omega)
        have hne : ¬ oI (iI s 341 (50 + 10 * x + 6)) = oI (p : Int) := fun q => hst.2 ((oI_eq (by omega) (by omega) (by omega) (by omega)).mp q)
        -- the reference up to the obstacle
        have ref : ∀ s', RO s' → (∀ k, iI s' 341 k = iI s 341 k) → ∃ M1, FI (pI s' 340 0 0) M1 (fun k j => 342 ≤ k ∧ k ≤ 345 ∧ j ≤ 12) ∧ RO M1 ∧ F_X8_move fl 340 (oI x) (oI p) s' = if oB (1 ≤ v ∧ v ≤ 3) = 0 then B_X8_move_99 fl 340 (oI x) (oI p) 340 0 M1 else B_X8_move_99 fl 340 (oI x) (oI p) 340 3 M1 := by
          intro s' hs' e
          obtain ⟨M1, n1, n2, n3, n4, n5⟩ := href (pI s' 340 0 0) hs' (fun k => by rw [iI_pn (Or.inl (by omega)), e])
          refine ⟨M1, n2, n3, ?_⟩
          unfold F_X8_move
          rw [X8_isParty hs' (by omega) (by omega) (by rw [e]; omega), bd_some, ifB_t (by rw [e]; omega), X8_isPitch hs' (by omega) (by omega) (by rw [e]; omega), bd_some, ifB_t (by rw [e]; omega), X8_isAhead hs' (by omega), bd_some, ifB_t (by rw [e, e, e]; omega), show (6 : Int32) = oI ((6 : Nat) : Int) from rfl, X8_of hs' (by omega) (by omega), bd_some, e, if_neg hne]
          unfold B_X8_move_45
          rw [nx_eq, if_pos (th_0 s'), n1, bd_some, show (0 : Int32) = oI ((0 : Nat) : Int) from rfl, X8_of n3 (by omega) (by omega), bd_some, ← n0_o, show F_X8_of fl 340 (oI x) 1 M1 = F_X8_of fl 340 (oI x) (oI ((1 : Nat) : Int)) M1 from rfl, X8_of n3 (by omega) (by omega), bd_some, show F_X8_of fl 340 (oI x) 2 M1 = F_X8_of fl 340 (oI x) (oI ((2 : Nat) : Int)) M1 from rfl, X8_of n3 (by omega) (by omega), bd_some, n4, n4, n4, n5, bd_some]
          dsimp only
          rw [wv8, bd_some]
        by_cases hv3 : 1 ≤ v ∧ v ≤ 3
        · have q1 : F_X7_move fl 320 (oI x) (oI p) s = some (.inl 5, s) := by
            unfold F_X7_move
            refine (hd _).trans ?_
            rw [ld_320_1 hs, bd_some, st, bd_some, ifB_t hst.1, e7, if_neg hne, bd_some, hcl, bd_some, wv, bd_some, ifB_t hv3]
          obtain ⟨M1, n2, n3, f1⟩ := ref s hs (fun _ => rfl)
          rw [ifB_t hv3] at f1
          refine Ans_x (s2 := pI M1 340 0 3) (v := 0) hI (c := 3) (by omega) (by omega) (L_move_3 q1) ?_ (FI_trans (FI_th s 0) (FI_trans (FI_lo n2) (FI_th M1 3))) rfl
          rw [f1]
          unfold B_X8_move_99
          rw [nx_eq, if_neg (th_n M1 (by decide))]
        · obtain ⟨cc, m, hh, m8, c8, hk⟩ := keepK hI
          obtain ⟨s1, k1, F1, k3, k4, k5⟩ := hk fl hfl
          have hs1 := FG_RO F1 hs
          have w7 : gI s1 (9 + x) 7 = oI (iI s 341 (50 + 10 * x + 6)) := by rw [gI_oI, FG_I F1 (by unfold kpC cpC; omega), c_q7 hc ha.2]
          obtain ⟨s2, e0, G0, y0⟩ := stI s1 (9 + x) 7 (v := p) (by omega) (by omega)
          have q1 : F_X7_move fl 320 (oI x) (oI p) s = some (.inr (oI (iI s 341 (50 + 10 * x + 6))), s2) := by
            unfold F_X7_move
            refine (hd _).trans ?_
            rw [ld_320_1 hs, bd_some, st, bd_some, ifB_t hst.1, e7, if_neg hne, bd_some, hcl, bd_some, wv, bd_some, ifB_f hv3, ld_320_4 hs, bd_some, bd_some, k1, bd_some, nx_eq, e0, w7]
          have F2 : FG s1 s2 (fun k j => k ≤ 26) := FG_mono G0 (by omega)
          have hs3 : RO (pL s2 350 0 (Int32.toInt64 (oI (iI s 341 (50 + 10 * x + 6))))) := RO_L (FG_RO F2 hs1) _ _ _
          obtain ⟨M1, n2, n3, f1⟩ := ref _ hs3 (fun k => by rw [iI_pL, FG_I F2 (by omega), FG_I F1 (by unfold kpC cpC; omega)])
          rw [ifB_f hv3] at f1
          have F4 : FG s2 (pI M1 340 0 0) scC := FG_trans (F4_th s2 _) (FG_FI (FI_trans (FI_lo n2) (FI_th M1 0)))
          obtain ⟨s5, p1, p2, p3, p4, p5, p6, p7, p8⟩ := midK hI hh F1 F2 F4 hfl
          obtain ⟨s6, g0, H0, x0⟩ := stF s5 341 (50 + 10 * x + 6) (v := p) (by omega) (by omega)
          refine Ans_k hI hh F1 k3 k4 k5 p6 (md_sc F2 F4) p2 (FI_mono H0 (by omega)) ?_ (by rw [p7]; exact th_z _) (by rw [p8, gL_pI, FI_L n2]; exact gL_th _ _) (L_move_v q1) ?_
          · have cf : ∀ k j, k ≤ 26 → iI s6 k j = iI s2 k j := fun k j hk => by rw [H0.2 k j (by omega), (p5 k j hk).1]
            refine Cmp_move (s := s) ⟨hv, hc⟩ (x := x) (v := p) ha.2 (fun k hk hnn => ?_) (fun k j hk hnn => ?_) (fun k hk => ?_) x0 (by rw [cf _ _ (by omega)]; exact y0) (by omega) hb.2 (fun r h1 h2 _ h4 h5 => hdis hv3 r h1 h2 h4 h5)
            · rw [H0.2 341 k (by omega)]; exact p4 k hk
            · rw [cf k j hk, FG_I G0 (by omega), FG_I F1 (by unfold kpC cpC; omega)]
            · rw [FI_L H0, (p5 k 6 hk).2, FG_L G0 (by omega), FG_L F1 (by unfold kpC cpC; omega)]
          · rw [f1]
            unfold B_X8_move_99
            rw [nx_eq, if_pos (th_0 M1), p1, bd_some, show (6 : Int32) = oI ((6 : Nat) : Int) from rfl, X8_of p3 (by omega) (by omega), bd_some, X8_lays p3 (by omega) (by omega), bd_some, g0, p4 _ (by omega)]
      · have q1 : F_X7_move fl 320 (oI x) (oI p) s = some (.inl 2, s) := by
          unfold F_X7_move B_X7_move_39
          refine (hd _).trans ?_
          rw [ld_320_1 hs, bd_some, st, bd_some]
          by_cases h1 : iI s 341 (50 + 10 * x + 8) ≠ 0 ∧ iI s 341 3 ≤ iI s 341 (50 + 10 * x + 4)
          · rw [ifB_t h1, e7, if_pos (congrArg oI (by omega))]
          · rw [ifB_f h1]
        refine Ans_e hI (c := 2) (v := 0) (by omega) (by omega) (L_move_2 q1) ?_
        have bad : B_X8_move_40 fl 340 (oI x) (oI p) 340 s = some (0, pI s 340 0 (oI (2 : Nat))) := by
          unfold B_X8_move_40 B_X8_move_45
          rw [nx_eq, if_neg (th_n s (by decide))] <;> rfl
        unfold F_X8_move
        rw [X8_isParty hs (by omega) (by omega) (by omega), bd_some, ifB_t (by omega), X8_isPitch hs (by omega) (by omega) (by omega), bd_some, ifB_t (by omega), X8_isAhead hs (by omega), bd_some]
        by_cases h1 : iI s 341 (50 + 10 * x + 8) = 1 ∧ iI s 341 3 ≤ iI s 341 (50 + 10 * x + 4)
        · rw [ifB_t h1, show (6 : Int32) = oI ((6 : Nat) : Int) from rfl, X8_of hs (by omega) (by omega), bd_some, if_pos (congrArg oI (by omega)), bad]
        · rw [ifB_f h1, bad]
    · have q1 : F_X7_move fl 320 (oI a) (oI b) s = some (.inl 3, s) := by
        unfold F_X7_move
        rw [rqQ_y hs hc (by omega) (by omega) (by omega) ha, bd_some, xb_r, rqP_n hs hc (by omega) (by omega) hb]
        rfl
      refine Ans_e hI (c := 1) (v := 0) (by omega) (by omega) (L_move_1 q1) ?_
      unfold F_X8_move
      rw [X8_isParty hs (by omega) (by omega) (by omega), bd_some, ifB_t (by omega), X8_isPitch hs (by omega) (by omega) (by omega), bd_some, ifB_f (by omega)]
      unfold B_X8_move_17 B_X8_move_45
      rw [nx_eq, if_neg (th_n s (by decide))] <;> rfl
  · have q1 : F_X7_move fl 320 (oI a) (oI b) s = some (.inl 3, s) := by
      unfold F_X7_move
      rw [rqQ_n hs hc (by omega) (by omega) (by omega) ha]
      rfl
    refine Ans_e hI (c := 1) (v := 0) (by omega) (by omega) (L_move_1 q1) ?_
    unfold F_X8_move
    rw [X8_isParty hs (by omega) (by omega) (by omega), bd_some, ifB_f (by omega)]
    unfold B_X8_move_17 B_X8_move_45
    rw [nx_eq, if_neg (th_n s (by decide))] <;> rfl
-- undo
theorem X2_takeBack {fl : Nat} (hfl : 1000 ≤ fl) {s : Mem} (hs : RO s) {c m : Nat} (hh : Hist s c m) (hc : 1 ≤ c) : ∃ s', F_X2_takeBack fl 334 0 s = some s' ∧ FG s s' (fun k j => cpC 0 k j ∨ k = 334 ∧ (j = 1 ∨ j = 2)) ∧ iI s' 334 1 = ((m + 7) % 8 : Nat) ∧ iI s' 334 2 = ((c - 1 : Nat) : Int) ∧ CR s' 0 (rwR s c) ∧ VR (rwR s c) := by
  obtain ⟨⟨h2, h1, h3, h4, h5⟩, hr⟩ := hh
  obtain ⟨v1, v2⟩ := hr c hc (Nat.le_refl _)
  rw [show (m + 7 + c - c) % 8 = (m + 7) % 8 by omega] at v2
  have key : ∀ (n : Nat), n < 8 → n = (m + 7) % 8 → ∃ s', B_X2_takeBack_19 fl 334 0 334 (oI n) s = some s' ∧ FG s s' (fun k j => cpC 0 k j ∨ k = 334 ∧ (j = 1 ∨ j = 2)) ∧ iI s' 334 1 = n ∧ iI s' 334 2 = ((c - 1 : Nat) : Int) ∧ CR s' 0 (rwR s c) := by
    intro n hn hnm
    rw [← hnm] at v2
    obtain ⟨m1, e1, G1, y1⟩ := stI s 334 1 (v := n) (by omega) (by omega)
    have hm1 := FG_RO G1 hs
    obtain ⟨m2, f1, F, f3⟩ := X1_copyFrom (fl := fl) hfl cA_0 (cA_k hn) (by omega) v1 hm1 (CR_FG G1 (by unfold out; omega) (VRn v1) v2)
    have hm2 := FG_RO F hm1
    have z2 : gI m2 334 2 = oI (c : Int) := by rw [gI_oI, FG_I F (by unfold cpC; omega), FG_I G1 (by omega), h2]
    obtain ⟨m3, e3, G3, y3⟩ := stI m2 334 2 (v := ((c - 1 : Nat) : Int)) (by omega) (by omega)
    refine ⟨m3, ?_, FG_trans (FG_mono G1 (by omega)) (FG_trans (FG_mono F (fun k j h => Or.inl h)) (FG_mono G3 (by omega))), ?_, y3, CR_FG G3 (by unfold out; omega) (VRn v1) f3⟩
    · unfold B_X2_takeBack_19
      rw [nx_eq, e1, ld_334_0 hm1, bd_some]
      dsimp only
      rw [show gI m1 334 1 = oI (n : Int) from by rw [gI_oI, y1], gd_t ((oI_inR (by omega) (by omega)).mpr (by omega)), show ldO m1 335 (oI (n : Int)).toNatClampNeg 3 = some (64 + 32 * n) from by rw [oI_nat (by omega) (by omega), Int.toNat_natCast]; exact ld_hk hm1 hn, bd_some, f1, bd_some, nx_eq, z2, show oI (c : Int) - 1 = oI ((c - 1 : Nat) : Int) from by rw [oI_lit, oI_sub]; congr 1; show (c : Int) - 1 = _; omega, e3]
    · rw [FG_I G3 (by omega), FG_I F (by unfold cpC; omega)]; exact y1
  unfold F_X2_takeBack
  rw [show gI s 334 1 = oI (m : Int) from by rw [gI_oI, h1]]
  by_cases hm : m = 0
  · obtain ⟨s', g1, g2, g3, g4, g5⟩ := key 7 (by omega) (by omega)
    refine ⟨s', ?_, g2, by rw [g3]; congr 1; omega, g4, g5, v1⟩
    rw [if_pos (by rw [n0_o, oI_le (by omega) (by omega) (by omega) (by omega)]; omega)]
    exact g1
  · obtain ⟨s', g1, g2, g3, g4, g5⟩ := key (m - 1) (by omega) (by omega)
    refine ⟨s', ?_, g2, by rw [g3]; congr 1; omega, g4, g5, v1⟩
    rw [if_neg (by rw [n0_o, oI_le (by omega) (by omega) (by omega) (by omega)]; omega), show oI (m : Int) - 1 = oI ((m - 1 : Nat) : Int) from by rw [oI_lit, oI_sub]; congr 1; show (m : Int) - 1 = _; omega]
    exact g1
theorem LM_undo {fl : Nat} (hfl : 1000 ≤ fl) {s : Mem} (hI : Inv s) : Ans (F_L_undo fl 320 350) (F_X8_undo fl 340) s := by
  have hI' := hI
  obtain ⟨hs, i1, ⟨hv, hc⟩, ⟨c, m, hh⟩, i4, i5, i6, i7⟩ := hI'
  have hh' := hh
  obtain ⟨⟨h2, h1, h3, h4, h5⟩, hr⟩ := hh'
  by_cases h0 : c = 0
  · have q1 : F_X7_undo fl 320 s = some (.inl 2, s) := by
      unfold F_X7_undo
      rw [ld_320_4 hs, bd_some, show gI s 334 2 = oI (c : Int) from by rw [gI_oI, h2], if_neg (by rw [n0_o, oI_lt (by omega) (by omega) (by omega) (by omega)]; omega)]
    refine Ans_e hI (c := 1) (v := 0) (by omega) (by omega) (L_undo_1 q1) ?_
    unfold F_X8_undo
    rw [show gI s 340 2 = oI (c : Int) from by rw [gI_oI, h3], if_pos (by rw [h0]; rfl)]
    unfold B_X8_undo_13
    rw [nx_eq, if_neg (th_n s (by decide))] <;> rfl
  · obtain ⟨s1, t1, F1, t3, t4, t5, t6⟩ := X2_takeBack (fl := fl) hfl hs hh (by omega)
    have hs1 := FG_RO F1 hs
    have q1 : F_X7_undo fl 320 s = some (.inr (oI ((c - 1 : Nat) : Int)), s1) := by
      unfold F_X7_undo
      rw [ld_320_4 hs, bd_some, show gI s 334 2 = oI (c : Int) from by rw [gI_oI, h2], if_pos (by rw [n0_o, oI_lt (by omega) (by omega) (by omega) (by omega)]; omega), bd_some, ld_320_1 hs, bd_some, t1, bd_some, ld_320_4 hs1, bd_some, gI_oI, t4]
    have F3 : FG s1 (pI (pL s1 350 0 (Int32.toInt64 (oI ((c - 1 : Nat) : Int)))) 340 0 0) scC := F4_th _ _
    have hs4 := FG_RO F3 hs1
    have z2 : iI (pI (pL s1 350 0 (Int32.toInt64 (oI ((c - 1 : Nat) : Int)))) 340 0 0) 340 2 = c := by rw [FG_I F3 (by unfold scC; omega), FG_I F1 (by unfold cpC; omega)]; exact h3
    obtain ⟨s5, g1, g2, g3⟩ := X8_copies (fl := fl) hfl hs4 (a := c) (b := 0) (by omega) (by omega) (by omega)
    obtain ⟨s6, e6, G6, y6⟩ := stF s5 340 2 (v := ((c - 1 : Nat) : Int)) (by omega) (by omega)
    have hs3 : RO (pL s1 350 0 (Int32.toInt64 (oI ((c - 1 : Nat) : Int)))) := RO_L hs1 _ _ _
    have FF : FG s s6 (fun k j => (cpC 0 k j ∨ k = 334 ∧ (j = 1 ∨ j = 2)) ∨ scC k j ∨ k = 341 ∧ j < 170 ∨ k = 340 ∧ j = 2) := FG_trans (FG_mono F1 (fun k j h => Or.inl h)) (FG_trans (FG_mono F3 (fun k j h => Or.inr (Or.inl h))) (FG_trans (FG_mono (FG_FI g2) (by omega)) (FG_mono (FG_FI G6) (by omega))))
    have er : ∀ k, k < 170 → iI s6 341 k = rwR s c k := fun k hk => by
      have := g3 k hk
      rw [show 170 * 0 + k = k by omega] at this
      rw [G6.2 341 k (by omega), this, FG_I F3 (by unfold scC; omega), FG_I F1 (by unfold cpC; omega)]
    refine ⟨oI (0 : Nat), _, oI ((c - 1 : Nat) : Int), s6, L_undo_v q1, ?_, ?_, fun _ => ?_, ?_⟩
    · unfold F_X8_undo
      rw [show gI (pL s1 350 0 (Int32.toInt64 (oI ((c - 1 : Nat) : Int)))) 340 2 = oI (c : Int) from by rw [gI_oI, iI_pL, FG_I F1 (by unfold cpC; omega), h3], if_neg (by rw [n0_o, oI_eq (by omega) (by omega) (by omega) (by omega)]; omega)]
      unfold B_X8_undo_13
      rw [nx_eq, if_pos (th_0 _), show gI (pI (pL s1 350 0 (Int32.toInt64 (oI ((c - 1 : Nat) : Int)))) 340 0 0) 340 2 = oI (c : Int) from by rw [gI_oI, z2], show F_X8_copies fl 340 (oI (c : Int)) 0 (pI (pL s1 350 0 (Int32.toInt64 (oI ((c - 1 : Nat) : Int)))) 340 0 0) = some s5 from g1, bd_some, nx_eq, show gI s5 340 2 = oI (c : Int) from by rw [gI_oI, g2.2 340 2 (by omega), z2], show oI (c : Int) - 1 = oI ((c - 1 : Nat) : Int) from by rw [oI_lit, oI_sub]; congr 1; show (c : Int) - 1 = _; omega, e6, gI_oI, y6]
    · rw [gI_oI, G6.2 340 0 (by omega), g2.2 340 0 (by omega)]; rfl
    · rw [FI_L G6, FI_L g2]; exact gL_th _ _
    · refine ⟨FG_RO FF hs, Cst_FG FF (by unfold cpC scC; omega) i1, ⟨VR_cg er t6, CR_cg er (VRn t6) ?_⟩, ⟨c - 1, (m + 7) % 8, ⟨?_, ?_, ?_, by omega, by omega⟩, ?_⟩, Snp_FG FF (by unfold cpC scC; omega) i4, Rsn_FG FF (by unfold cpC scC; omega) i5, Lat_FG FF (by unfold cpC scC; omega) i6, Txt_FG FF (by unfold cpC scC; omega) i7⟩
      · exact CR_FG (FG_FI G6) (by unfold out; omega) (VRn t6) (CR_FG (FG_FI g2) (by unfold out; omega) (VRn t6) (CR_FG F3 (by unfold out scC; omega) (VRn t6) t5))
      · rw [G6.2 334 2 (by omega), g2.2 334 2 (by omega), FG_I F3 (by unfold scC; omega)]; exact t4
      · rw [G6.2 334 1 (by omega), g2.2 334 1 (by omega), FG_I F3 (by unfold scC; omega)]; exact t3
      · exact y6
      · have hr' : HR s6 c m := HR_FG FF (by unfold cpC scC; omega) h4 hr
        intro r r1 r2
        have := hr' r r1 (by omega)
        rw [show ((m + 7) % 8 + 7 + r - (c - 1)) % 8 = (m + 7 + r - c) % 8 by omega]
        exact this
-- the snapshot
theorem LM_save {fl : Nat} (hfl : 1000 ≤ fl) {s : Mem} (hI : Inv s) : ∃ s1 s2, F_X7_save fl 320 s = some s1 ∧ F_X8_save fl 340 s1 = some s2 ∧ Inv s2 := by
  have hI' := hI
  obtain ⟨hs, i1, ⟨hv, hc⟩, ⟨c, m, hh⟩, i4, i5, i6, i7⟩ := hI'
  obtain ⟨m1, f1, F, f3⟩ := X1_copyFrom (fl := fl) hfl cA_32 cA_0 (by omega) hv hs hc
  have hm1 := FG_RO F hs
  obtain ⟨s1, e1, G1, y1⟩ := stI m1 320 3 (v := 1) (by omega) (by omega)
  have hs1 := FG_RO G1 hm1
  have F0 : FI s1 (pI s1 340 0 0) (fun k j => k = 340 ∧ j = 0) := FI_p _ _ _ _ ⟨rfl, rfl⟩
  obtain ⟨s3, e3, G3, y3⟩ := stF (pI s1 340 0 0) 340 3 (v := 1) (by omega) (by omega)
  have hs3 := FI_RO G3 (FI_RO F0 hs1)
  obtain ⟨s2, g1, g2, g3⟩ := X8_copies (fl := fl) hfl hs3 (a := 0) (b := 9) (by omega) (by omega) (by omega)
  have FF : FG s s2 (fun k j => cpC 32 k j ∨ k = 320 ∧ j = 3 ∨ k = 340 ∧ (j = 0 ∨ j = 3) ∨ k = 341 ∧ 1530 ≤ j ∧ j < 1700) := FG_trans (FG_mono F (fun k j h => Or.inl h)) (FG_trans (FG_mono G1 (by omega)) (FG_trans (FG_mono (FG_FI F0) (by omega)) (FG_trans (FG_mono (FG_FI G3) (by omega)) (FG_mono (FG_FI g2) (by omega)))))
  have er : ∀ k, k < 170 → rwR s2 9 k = iI s 341 k := fun k hk => by
    have := g3 k hk
    rw [show 170 * 0 + k = k by omega] at this
    show iI s2 341 (170 * 9 + k) = _
    rw [this, G3.2 341 k (by omega), F0.2 341 k (by omega), FG_I G1 (by omega), FG_I F (by unfold cpC; omega)]
  refine ⟨s1, s2, ?_, ?_, FG_RO FF hs, Cst_FG FF (by unfold cpC; omega) i1, Cmp_FG FF (by unfold cpC; omega) ⟨hv, hc⟩, ⟨c, m, Hist_FG FF (by unfold cpC; omega) hh⟩, ⟨?_, ?_, ?_, fun _ => ⟨VR_cg er hv, CR_cg er (VRn hv) ?_⟩⟩, Rsn_FG FF (by unfold cpC; omega) i5, Lat_FG FF (by unfold cpC; omega) i6, Txt_FG FF (by unfold cpC; omega) i7⟩
  · unfold F_X7_save
    rw [ld_320_2 hs, bd_some, ld_320_1 hs, bd_some, f1, bd_some, nx_eq, show (1 : Int32) = oI 1 from rfl, e1]
  · unfold F_X8_save
    rw [nx_eq, nx_eq, show (1 : Int32) = oI 1 from rfl, e3, show F_X8_copies fl 340 0 9 s3 = some s2 from g1, bd_some]
  · rw [FG_I (FG_FI g2) (by omega), FG_I (FG_FI G3) (by omega), FG_I (FG_FI F0) (by omega), y1, g2.2 340 3 (by omega), y3]
  · rw [g2.2 340 3 (by omega), y3]; omega
  · rw [g2.2 340 3 (by omega), y3]; omega
  · exact CR_FG (FG_FI g2) (by unfold out; omega) (VRn hv) (CR_FG (FG_FI G3) (by unfold out; omega) (VRn hv) (CR_FG (FG_FI F0) (by unfold out; omega) (VRn hv) (CR_FG G1 (by unfold out; omega) (VRn hv) f3)))
theorem LM_restore {fl : Nat} (hfl : 1000 ≤ fl) {s : Mem} (hI : Inv s) : ∃ k s1 s2, F_L_restore fl 320 s = some (k, s1) ∧ F_X8_restore fl 340 s1 = some s2 ∧ gI s2 340 0 = k ∧ Inv s2 := by
  have hI' := hI
  obtain ⟨hs, i1, ⟨hv, hc⟩, ⟨c, m, hh⟩, ⟨n1, n2, n3, n4⟩, i5, i6, i7⟩ := hI'
  by_cases h0 : iI s 340 3 = 0
  · have q1 : F_X7_restore fl 320 s = some (.inl 2, s) := by
      unfold F_X7_restore
      rw [gI_oI, n1, h0, if_pos (by decide)]
    refine ⟨oI (1 : Nat), s, pI s 340 0 1, L_restore_1 q1, ?_, rfl, Inv_sc (FG_p _ _ _ _ (by unfold scC; omega)) hI⟩
    unfold F_X8_restore
    rw [gI_oI, h0, if_pos (by decide)]
    unfold B_X8_restore_13
    rw [nx_eq, if_neg (th_n s (by decide))]
  · obtain ⟨v1, v2⟩ := n4 (by omega)
    have h1 : iI s 340 3 = 1 := by omega
    obtain ⟨m1, f1, F, f3⟩ := X1_copyFrom (fl := fl) hfl cA_0 cA_32 (by omega) v1 hs v2
    have hm1 := FG_RO F hs
    obtain ⟨s1, e1, G1, y1⟩ := stI m1 334 2 (v := 0) (by omega) (by omega)
    have hs1 := FG_RO G1 hm1
    have q1 : F_X7_restore fl 320 s = some (.inr (), s1) := by
      unfold F_X7_restore
      rw [gI_oI, n1, h1, if_neg (by decide), ld_320_1 hs, bd_some, ld_320_2 hs, bd_some, f1, bd_some, ld_320_4 hm1, bd_some, nx_eq, show (0 : Int32) = oI 0 from rfl, e1]
    have F0 : FI s1 (pI s1 340 0 0) (fun k j => k = 340 ∧ j = 0) := FI_p _ _ _ _ ⟨rfl, rfl⟩
    obtain ⟨s3, g1, g2, g3⟩ := X8_copies (fl := fl) hfl (FI_RO F0 hs1) (a := 9) (b := 0) (by omega) (by omega) (by omega)
    obtain ⟨s2, e3, G3, y3⟩ := stF s3 340 2 (v := 0) (by omega) (by omega)
    have FF : FG s s2 (fun k j => cpC 0 k j ∨ k = 334 ∧ j = 2 ∨ k = 340 ∧ (j = 0 ∨ j = 2) ∨ k = 341 ∧ j < 170) := FG_trans (FG_mono F (fun k j h => Or.inl h)) (FG_trans (FG_mono G1 (by omega)) (FG_trans (FG_mono (FG_FI F0) (by omega)) (FG_trans (FG_mono (FG_FI g2) (by omega)) (FG_mono (FG_FI G3) (by omega)))))
    have er : ∀ k, k < 170 → iI s2 341 k = rwR s 9 k := fun k hk => by
      have := g3 k hk
      rw [show 170 * 0 + k = k by omega] at this
      rw [G3.2 341 k (by omega), this, F0.2 341 _ (by omega), FG_I G1 (by omega), FG_I F (by unfold cpC; omega)]
    refine ⟨oI (0 : Nat), s1, s2, L_restore_v q1, ?_, ?_, FG_RO FF hs, Cst_FG FF (by unfold cpC; omega) i1, ⟨VR_cg er v1, CR_cg er (VRn v1) ?_⟩, ⟨0, m, ⟨?_, ?_, ?_, by omega, hh.1.2.2.2.2⟩, fun r r1 r2 => by omega⟩, Snp_FG FF (by unfold cpC; omega) ⟨n1, n2, n3, n4⟩, Rsn_FG FF (by unfold cpC; omega) i5, Lat_FG FF (by unfold cpC; omega) i6, Txt_FG FF (by unfold cpC; omega) i7⟩
    · unfold F_X8_restore
      rw [show gI s1 340 3 = oI 1 from by rw [gI_oI, FG_I G1 (by omega), FG_I F (by unfold cpC; omega), h1], if_neg (by decide)]
      unfold B_X8_restore_13
      rw [nx_eq, if_pos (th_0 s1), show F_X8_copies fl 340 9 0 (pI s1 340 0 0) = some s3 from g1, bd_some, nx_eq, show (0 : Int32) = oI 0 from rfl, e3]
    · rw [gI_oI, G3.2 340 0 (by omega), g2.2 340 0 (by omega)]; rfl
    · exact CR_FG (FG_FI G3) (by unfold out; omega) (VRn v1) (CR_FG (FG_FI g2) (by unfold out; omega) (VRn v1) (CR_FG (FG_FI F0) (by unfold out; omega) (VRn v1) (CR_FG G1 (by unfold out; omega) (VRn v1) f3)))
    · rw [G3.2 334 2 (by omega), g2.2 334 2 (by omega), F0.2 334 2 (by omega), y1]; rfl
    · rw [G3.2 334 1 (by omega), g2.2 334 1 (by omega), F0.2 334 1 (by omega), FG_I G1 (by omega), FG_I F (by unfold cpC; omega)]; exact hh.1.2.1
    · rw [y3]; rfl
