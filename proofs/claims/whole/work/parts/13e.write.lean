-- a new pitch
theorem X1_makePitch {fl : Nat} {s : Mem} (hs : RO s) {x : Nat} (hx : iI s 0 1 = x) (h6 : x < 6) {kd ln br ci : Int} (a1 : -2147483648 ≤ kd) (a2 : kd < 2147483648) (b1 : -2147483648 ≤ ln) (b2 : ln < 2147483648) (c1 : -2147483648 ≤ br) (c2 : br < 2147483648) (d1 : -2147483648 ≤ ci) (d2 : ci < 2147483648) :
    ∃ s', F_X1_makePitch fl 0 (oI kd) (oI ln) (oI br) (oI ci) s = some (oI x, s') ∧ FG s s' (fun k j => k = 0 ∧ j = 1 ∨ k = 2 + x ∧ j < 5) ∧ iI s' 0 1 = ((x + 1 : Nat) : Int) ∧ iI s' (2 + x) 0 = kd ∧ iI s' (2 + x) 1 = ln ∧ iI s' (2 + x) 2 = br ∧ iI s' (2 + x) 3 = ci ∧ iI s' (2 + x) 4 = 10 := by
  obtain ⟨m0, e0, F0, w0⟩ := stI s (2 + x) 0 a1 a2
  obtain ⟨m1, e1, F1, w1⟩ := stI m0 (2 + x) 1 b1 b2
  obtain ⟨m2, e2, F2, w2⟩ := stI m1 (2 + x) 2 c1 c2
  obtain ⟨m3, e3, F3, w3⟩ := stI m2 (2 + x) 3 d1 d2
  obtain ⟨m4, e4, F4, w4⟩ := stI m3 (2 + x) 4 (v := ((10 : Nat) : Int)) (by omega) (by omega)
  obtain ⟨m5, e5, F5, w5⟩ := stI m4 0 1 (v := ((x + 1 : Nat) : Int)) (by omega) (by omega)
  have r4 : iI m4 0 1 = x := by rw [FG_I F4 (by omega), FG_I F3 (by omega), FG_I F2 (by omega), FG_I F1 (by omega), FG_I F0 (by omega)]; exact hx
  have r4' : gI m4 0 1 = oI x := by rw [gI_oI, r4]
  refine ⟨m5, ?_, FG_trans (FG_mono F0 (by omega)) (FG_trans (FG_mono F1 (by omega)) (FG_trans (FG_mono F2 (by omega)) (FG_trans (FG_mono F3 (by omega)) (FG_trans (FG_mono F4 (by omega)) (FG_mono F5 (by omega)))))), w5, ?_, ?_, ?_, ?_, ?_⟩
  · unfold F_X1_makePitch
    rw [ld_00 hs, bd_some]
    dsimp only
    rw [gI_oI, hx, gd_t ((oI_inR (by omega) (by omega)).mpr (by omega)), ldP hs (by omega), bd_some, nx_eq, e0, nx_eq, e1, nx_eq, e2, nx_eq, e3, nx_eq, show (10 : Int32) = oI ((10 : Nat) : Int) from rfl, e4, nx_eq, r4', show oI (x : Int) + 1 = oI ((x + 1 : Nat) : Int) from by rw [oI_lit, oI_add]; rfl, e5, gI_oI, w5, show oI ((x + 1 : Nat) : Int) - 1 = oI (x : Int) from by rw [oI_lit, oI_sub]; congr 1; show ((x + 1 : Nat) : Int) - 1 = x; omega]
  · rw [FG_I F5 (by omega), FG_I F4 (by omega), FG_I F3 (by omega), FG_I F2 (by omega), FG_I F1 (by omega)]; exact w0
  · rw [FG_I F5 (by omega), FG_I F4 (by omega), FG_I F3 (by omega), FG_I F2 (by omega)]; exact w1
  · rw [FG_I F5 (by omega), FG_I F4 (by omega), FG_I F3 (by omega)]; exact w2
  · rw [FG_I F5 (by omega), FG_I F4 (by omega)]; exact w3
  · rw [FG_I F5 (by omega)]; exact w4
theorem X8_addP {fl : Nat} {s3 s5 : Mem} (h3 : RO s3) (p3 : RO s5) (hk : F_X8_keeps fl 340 (pI s3 340 0 0) = some s5) {x : Nat} (e0 : iI s3 341 0 = x) (hx5 : iI s5 341 0 = x) (h6 : x < 6) {kd ln br ci : Int} (r1 : 0 ≤ kd ∧ kd ≤ 2) (r2 : 2 ≤ ln ∧ ln ≤ 12) (r3 : 2 ≤ br ∧ br ≤ 12) (r4 : -1 ≤ ci ∧ ci ≤ 2) :
    ∃ s6, F_X8_addPitch fl 340 (oI kd) (oI ln) (oI br) (oI ci) s3 = some (oI x, s6) ∧ FI s5 s6 (fun k j => k = 341 ∧ (j = 0 ∨ 8 + 5 * x ≤ j ∧ j < 8 + 5 * x + 5)) ∧ iI s6 341 0 = ((x + 1 : Nat) : Int) ∧ iI s6 341 (8 + 5 * x + 0) = kd ∧ iI s6 341 (8 + 5 * x + 1) = ln ∧ iI s6 341 (8 + 5 * x + 2) = br ∧ iI s6 341 (8 + 5 * x + 3) = ci ∧ iI s6 341 (8 + 5 * x + 4) = 10 := by
  have t1 : F_X8_in fl (oI kd) 0 2 s3 = some (oB (0 ≤ kd ∧ kd ≤ 2)) := X8_in (v := kd) (a := 0) (b := 2) (by omega) (by omega) (by omega) (by omega) (by omega) (by omega)
  have t2 : F_X8_in fl (oI ln) 2 12 s3 = some (oB (2 ≤ ln ∧ ln ≤ 12)) := X8_in (v := ln) (a := 2) (b := 12) (by omega) (by omega) (by omega) (by omega) (by omega) (by omega)
  have t3 : F_X8_in fl (oI br) 2 12 s3 = some (oB (2 ≤ br ∧ br ≤ 12)) := X8_in (v := br) (a := 2) (b := 12) (by omega) (by omega) (by omega) (by omega) (by omega) (by omega)
  have t4 : F_X8_in fl (oI ci) (-1) 2 s3 = some (oB (-1 ≤ ci ∧ ci ≤ 2)) := by
    rw [m1_o]
    exact X8_in (v := ci) (a := -1) (b := 2) (by omega) (by omega) (by omega) (by omega) (by omega) (by omega)
  obtain ⟨n0, e0', G0, y0⟩ := stF s5 341 (8 + 5 * x) (v := kd) (by omega) (by omega)
  obtain ⟨n1, e1, G1, y1⟩ := stF n0 341 (8 + 5 * x + 1) (v := ln) (by omega) (by omega)
  obtain ⟨n2, e2, G2, y2⟩ := stF n1 341 (8 + 5 * x + 2) (v := br) (by omega) (by omega)
  obtain ⟨n3, e3, G3, y3⟩ := stF n2 341 (8 + 5 * x + 3) (v := ci) (by omega) (by omega)
  obtain ⟨n4, e4, G4, y4⟩ := stF n3 341 (8 + 5 * x + 4) (v := ((10 : Nat) : Int)) (by omega) (by omega)
  obtain ⟨s6, e5, G5, y5⟩ := stF n4 341 0 (v := ((x + 1 : Nat) : Int)) (by omega) (by omega)
  have z0 := FI_RO G0 p3
  have z1 := FI_RO G1 z0
  have z2 := FI_RO G2 z1
  have z3 := FI_RO G3 z2
  have z4 := FI_RO G4 z3
  have hx4 : iI n4 341 0 = x := by rw [G4.2 _ _ (by omega), G3.2 _ _ (by omega), G2.2 _ _ (by omega), G1.2 _ _ (by omega), G0.2 _ _ (by omega)]; exact hx5
  refine ⟨s6, ?_, FI_trans (FI_mono G0 (by omega)) (FI_trans (FI_mono G1 (by omega)) (FI_trans (FI_mono G2 (by omega)) (FI_trans (FI_mono G3 (by omega)) (FI_trans (FI_mono G4 (by omega)) (FI_mono G5 (by omega)))))), y5, ?_, ?_, ?_, ?_, ?_⟩
  · unfold F_X8_addPitch
    rw [t1, bd_some, ifB_t r1, t2, bd_some, ifB_t r2, t3, bd_some, ifB_t r3, t4, bd_some, ifB_t r4, ld_340_1 h3, bd_some, gd_t (by decide), gI_oI, show (0 : Int32).toNatClampNeg = 0 from by decide]
    dsimp only
    rw [e0, if_neg (by rw [oI_lit, oI_eq (by omega) (by omega) (by decide) (by decide)]; show ¬ (x : Int) = 6; omega)]
    unfold B_X8_addPitch_60
    have hg : gI s5 341 (0 : Int32).toNatClampNeg = oI (x : Int) := by rw [gI_oI]; exact congrArg oI hx5
    rw [nx_eq, if_pos (th_0 _), hk, bd_some, ld_340_1 p3, bd_some]
    dsimp only
    rw [gd_t (by decide), hg]
    refine (stepW0 (i := 8 + 5 * oI (x : Int)) (k := 8 + 5 * x) (by rw [oI_lit, oI_lit, oI_mul, oI_add]; rfl) (by omega) _ _).trans ?_
    rw [e0']
    refine (stepW z0 (i := 8 + 5 * oI (x : Int) + 1) (k := 8 + 5 * x + 1) (by rw [oI_lit, oI_lit, oI_lit, oI_mul, oI_add, oI_add]; rfl) (by omega) _ _).trans ?_
    rw [e1]
    refine (stepW z1 (i := 8 + 5 * oI (x : Int) + 2) (k := 8 + 5 * x + 2) (by rw [oI_lit, oI_lit, oI_lit, oI_mul, oI_add, oI_add]; rfl) (by omega) _ _).trans ?_
    rw [e2]
    refine (stepW z2 (i := 8 + 5 * oI (x : Int) + 3) (k := 8 + 5 * x + 3) (by rw [oI_lit, oI_lit, oI_lit, oI_mul, oI_add, oI_add]; rfl) (by omega) _ _).trans ?_
    rw [e3]
    refine (stepW z3 (i := 8 + 5 * oI (x : Int) + 4) (k := 8 + 5 * x + 4) (by rw [oI_lit, oI_lit, oI_lit, oI_mul, oI_add, oI_add]; rfl) (by omega) _ _).trans ?_
    rw [show (10 : Int32) = oI ((10 : Nat) : Int) from rfl, e4]
    refine (stepW2 z4 (i := 0) (k := 0) rfl (by omega) (fun w => w + 1) _).trans ?_
    rw [gI_oI, hx4, show oI (x : Int) + 1 = oI ((x + 1 : Nat) : Int) from by rw [oI_lit, oI_add]; rfl, e5, ld_340_1 (FI_RO G5 z4), bd_some, gd_t (by decide)]
    have hg6 : gI s6 341 (0 : Int32).toNatClampNeg = oI ((x + 1 : Nat) : Int) := by rw [gI_oI]; exact congrArg oI y5
    dsimp only
    rw [hg6, show oI ((x + 1 : Nat) : Int) - 1 = oI (x : Int) from by rw [oI_lit, oI_sub]; congr 1; show ((x + 1 : Nat) : Int) - 1 = x; omega]
  · rw [G5.2 _ _ (by omega), G4.2 _ _ (by omega), G3.2 _ _ (by omega), G2.2 _ _ (by omega), G1.2 _ _ (by omega)]; exact y0
  · rw [G5.2 _ _ (by omega), G4.2 _ _ (by omega), G3.2 _ _ (by omega), G2.2 _ _ (by omega)]; exact y1
  · rw [G5.2 _ _ (by omega), G4.2 _ _ (by omega), G3.2 _ _ (by omega)]; exact y2
  · rw [G5.2 _ _ (by omega), G4.2 _ _ (by omega)]; exact y3
  · rw [G5.2 _ _ (by omega)]; exact y4
theorem LM_addPitch {fl : Nat} (hfl : 1000 ≤ fl) {s : Mem} (hI : Inv s) {kd ln br ci : Int} (a1 : -2147483648 ≤ kd) (a2 : kd < 2147483648) (b1 : -2147483648 ≤ ln) (b2 : ln < 2147483648) (c1 : -2147483648 ≤ br) (c2 : br < 2147483648) (d1 : -2147483648 ≤ ci) (d2 : ci < 2147483648) : Ans (F_L_addPitch fl 320 (oI kd) (oI ln) (oI br) (oI ci) 350) (F_X8_addPitch fl 340 (oI kd) (oI ln) (oI br) (oI ci)) s := by
  have hI' := hI
  obtain ⟨hs, -, ⟨hv, hc⟩, -⟩ := hI'
  have bn := VRn hv
  unfold VN at bn
  have u1 : F_X7_isWithin fl (oI kd) 0 2 s = some (oB (0 ≤ kd ∧ kd ≤ 2)) := X7_isWithin (v := kd) (a := 0) (b := 2) a1 a2 (by omega) (by omega) (by omega) (by omega)
  have u2 : F_X7_isWithin fl (oI ln) 2 12 s = some (oB (2 ≤ ln ∧ ln ≤ 12)) := X7_isWithin (v := ln) (a := 2) (b := 12) b1 b2 (by omega) (by omega) (by omega) (by omega)
  have u3 : F_X7_isWithin fl (oI br) 2 12 s = some (oB (2 ≤ br ∧ br ≤ 12)) := X7_isWithin (v := br) (a := 2) (b := 12) c1 c2 (by omega) (by omega) (by omega) (by omega)
  have u4 : F_X7_isWithin fl (oI ci) (-1) 2 s = some (oB (-1 ≤ ci ∧ ci ≤ 2)) := by
    rw [m1_o]
    exact X7_isWithin (v := ci) (a := -1) (b := 2) d1 d2 (by omega) (by omega) (by omega) (by omega)
  have t1 : F_X8_in fl (oI kd) 0 2 s = some (oB (0 ≤ kd ∧ kd ≤ 2)) := X8_in (v := kd) (a := 0) (b := 2) a1 a2 (by omega) (by omega) (by omega) (by omega)
  have t2 : F_X8_in fl (oI ln) 2 12 s = some (oB (2 ≤ ln ∧ ln ≤ 12)) := X8_in (v := ln) (a := 2) (b := 12) b1 b2 (by omega) (by omega) (by omega) (by omega)
  have t3 : F_X8_in fl (oI br) 2 12 s = some (oB (2 ≤ br ∧ br ≤ 12)) := X8_in (v := br) (a := 2) (b := 12) c1 c2 (by omega) (by omega) (by omega) (by omega)
  have t4 : F_X8_in fl (oI ci) (-1) 2 s = some (oB (-1 ≤ ci ∧ ci ≤ 2)) := by
    rw [m1_o]
    exact X8_in (v := ci) (a := -1) (b := 2) d1 d2 (by omega) (by omega) (by omega) (by omega)
  by_cases hr : (0 ≤ kd ∧ kd ≤ 2) ∧ (2 ≤ ln ∧ ln ≤ 12) ∧ (2 ≤ br ∧ br ≤ 12) ∧ (-1 ≤ ci ∧ ci ≤ 2)
  · obtain ⟨r1, r2, r3, r4⟩ := hr
    obtain ⟨x, hx⟩ : ∃ x : Nat, iI s 341 0 = x := ⟨(iI s 341 0).toNat, by omega⟩
    by_cases h6 : x < 6
    · obtain ⟨c, m, hh, m8, c8, hk⟩ := keepK hI
      obtain ⟨s1, k1, F1, k3, k4, k5⟩ := hk fl hfl
      have hs1 := FG_RO F1 hs
      obtain ⟨s2, g1, g2, g3, g4, g5, g6, g7, g8⟩ := X1_makePitch (fl := fl) hs1 (x := x) (by rw [FG_I F1 (by unfold kpC cpC; omega), c_pc hc]; exact hx) h6 a1 a2 b1 b2 c1 c2 d1 d2
      have q1 : F_X7_addPitch fl 320 (oI kd) (oI ln) (oI br) (oI ci) s = some (.inr (oI x), s2) := by
        unfold F_X7_addPitch
        rw [u1, bd_some, ifB_t r1, u2, bd_some, ifB_t r2, u3, bd_some, ifB_t r3, u4, bd_some, ifB_t r4, ld_320_1 hs, bd_some, gI_oI, c_pc hc, hx, if_pos (by rw [oI_lit, oI_lt (by omega) (by omega) (by decide) (by decide)]; show (x : Int) < 6; omega), ld_320_4 hs, bd_some, bd_some, k1, bd_some, ld_320_1 hs1, bd_some, g1, bd_some]
      have F2 : FG s1 s2 (fun k j => k ≤ 26) := FG_mono g2 (by omega)
      obtain ⟨s5, p1, p2, p3, p4, p5, p6, p7, p8⟩ := midK hI hh F1 F2 (F4_th _ (Int32.toInt64 (oI x))) hfl
      have hx5 : iI s5 341 0 = x := by rw [p4 0 (by omega)]; exact hx
      have hs3 : RO (pL s2 350 0 (Int32.toInt64 (oI x))) := RO_L (FG_RO g2 hs1) _ _ _
      have e0 : iI (pL s2 350 0 (Int32.toInt64 (oI x))) 341 0 = x := by rw [iI_pL, FG_I g2 (by omega), FG_I F1 (by unfold kpC cpC; omega)]; exact hx
      obtain ⟨s6, f1, F6, v0, v1, v2, v3, v4, v5⟩ := X8_addP hs3 p3 p1 e0 hx5 h6 r1 r2 r3 r4
      refine Ans_k hI hh F1 k3 k4 k5 p6 (md_sc F2 (F4_th _ _)) p2 (FI_mono F6 (by omega)) ?_ (by rw [p7]; exact th_z _) (by rw [p8]; exact gL_th _ _) (L_addPitch_v q1) f1
      have cf : ∀ k j, k ≤ 26 → iI s6 k j = iI s2 k j := fun k j hk => by rw [F6.2 k j (by omega), (p5 k j hk).1]
      refine Cmp_addPitch (s := s) ⟨hv, hc⟩ (x := x) hx h6 (fun k hk hn => ?_) (fun k j hk hn => ?_) (fun k hk => ?_) v0 (fun i hi => ?_) (by rw [cf 0 1 (by omega)]; exact g3) ?_
      · rw [F6.2 341 k (by omega)]; exact p4 k hk
      · rw [cf k j hk, FG_I g2 (by omega), FG_I F1 (by unfold kpC cpC; omega)]
      · rw [FI_L F6, (p5 k 6 hk).2, FG_L g2 (by omega), FG_L F1 (by unfold kpC cpC; omega)]
      · rw [cf (2 + x) i (by omega)]
        have : i = 0 ∨ i = 1 ∨ i = 2 ∨ i = 3 ∨ i = 4 := by omega
        rcases this with rfl | rfl | rfl | rfl | rfl
        · rw [g4, v1]
        · rw [g5, v2]
        · rw [g6, v3]
        · rw [g7, v4]
        · rw [g8, v5]
      · unfold VP
        rw [v1, v2, v3, v4, v5]
        omega
    · have q1 : F_X7_addPitch fl 320 (oI kd) (oI ln) (oI br) (oI ci) s = some (.inl 2, s) := by
        unfold F_X7_addPitch
        rw [u1, bd_some, ifB_t r1, u2, bd_some, ifB_t r2, u3, bd_some, ifB_t r3, u4, bd_some, ifB_t r4, ld_320_1 hs, bd_some, gI_oI, c_pc hc, hx, if_neg (by rw [oI_lit, oI_lt (by omega) (by omega) (by decide) (by decide)]; show ¬ (x : Int) < 6; omega)]
      refine Ans_e hI (c := 2) (v := 0) (by omega) (by omega) (L_addPitch_2 q1) ?_
      unfold F_X8_addPitch
      rw [t1, bd_some, ifB_t r1, t2, bd_some, ifB_t r2, t3, bd_some, ifB_t r3, t4, bd_some, ifB_t r4, ld_340_1 hs, bd_some, gd_t (by decide), gI_oI, show (0 : Int32).toNatClampNeg = 0 from by decide]
      dsimp only
      rw [hx, if_pos (by rw [oI_lit, oI_eq (by omega) (by omega) (by decide) (by decide)]; show (x : Int) = 6; omega)]
      unfold B_X8_addPitch_60
      rw [nx_eq, if_neg (th_n s (by decide))] <;> rfl
  · have q1 : F_X7_addPitch fl 320 (oI kd) (oI ln) (oI br) (oI ci) s = some (.inl 1, s) := by
      unfold F_X7_addPitch B_X7_addPitch_39
      rw [u1, bd_some]
      by_cases r1 : 0 ≤ kd ∧ kd ≤ 2
      · rw [ifB_t r1, u2, bd_some]
        by_cases r2 : 2 ≤ ln ∧ ln ≤ 12
        · rw [ifB_t r2, u3, bd_some]
          by_cases r3 : 2 ≤ br ∧ br ≤ 12
          · rw [ifB_t r3, u4, bd_some, ifB_f (fun r4 => hr ⟨r1, r2, r3, r4⟩)]
          · rw [ifB_f r3]
        · rw [ifB_f r2]
      · rw [ifB_f r1]
    refine Ans_e hI (c := 1) (v := 0) (by omega) (by omega) (L_addPitch_1 q1) ?_
    have bad : B_X8_addPitch_40 fl 340 (oI kd) (oI ln) (oI br) (oI ci) 340 s = some (0, pI s 340 0 (oI (1 : Nat))) := by
      unfold B_X8_addPitch_40 B_X8_addPitch_60
      rw [nx_eq, if_neg (th_n s (by decide))] <;> rfl
    unfold F_X8_addPitch
    rw [t1, bd_some]
    by_cases r1 : 0 ≤ kd ∧ kd ≤ 2
    · rw [ifB_t r1, t2, bd_some]
      by_cases r2 : 2 ≤ ln ∧ ln ≤ 12
      · rw [ifB_t r2, t3, bd_some]
        by_cases r3 : 2 ≤ br ∧ br ≤ 12
        · rw [ifB_t r3, t4, bd_some, ifB_f (fun r4 => hr ⟨r1, r2, r3, r4⟩), bad]
        · rw [ifB_f r3, bad]
      · rw [ifB_f r2, bad]
    · rw [ifB_f r1, bad]
