-- a new season
theorem X1_makeSeason {fl : Nat} {s : Mem} (hs : RO s) {x : Nat} (hx : iI s 0 5 = x) (h6 : x < 4) {a b c : Int} (a1 : -2147483648 ≤ a) (a2 : a < 2147483648) (b1 : -2147483648 ≤ b) (b2 : b < 2147483648) (c1 : -2147483648 ≤ c) (c2 : c < 2147483648) :
    ∃ s', F_X1_makeSeason fl 0 (oI a) (oI b) (oI c) s = some (oI x, s') ∧ FG s s' (fun k j => k = 0 ∧ j = 5 ∨ k = 22 + x ∧ j < 3) ∧ iI s' 0 5 = ((x + 1 : Nat) : Int) ∧ iI s' (22 + x) 0 = a ∧ iI s' (22 + x) 1 = b ∧ iI s' (22 + x) 2 = c := by
  obtain ⟨m0, e0, F0, w0⟩ := stI s (22 + x) 0 a1 a2
  obtain ⟨m1, e1, F1, w1⟩ := stI m0 (22 + x) 1 b1 b2
  obtain ⟨m2, e2, F2, w2⟩ := stI m1 (22 + x) 2 c1 c2
  obtain ⟨m5, e5, F5, w5⟩ := stI m2 0 5 (v := ((x + 1 : Nat) : Int)) (by omega) (by omega)
  have r4 : iI m2 0 5 = x := by rw [FG_I F2 (by omega), FG_I F1 (by omega), FG_I F0 (by omega)]; exact hx
  have r4' : gI m2 0 5 = oI x := by rw [gI_oI, r4]
  refine ⟨m5, ?_, FG_trans (FG_mono F0 (by omega)) (FG_trans (FG_mono F1 (by omega)) (FG_trans (FG_mono F2 (by omega)) (FG_mono F5 (by omega)))), w5, ?_, ?_, ?_⟩
  · unfold F_X1_makeSeason
    rw [ld_04 hs, bd_some]
    dsimp only
    rw [gI_oI, hx, gd_t ((oI_inR (by omega) (by omega)).mpr (by omega)), ldSn hs (by omega), bd_some, nx_eq, e0, nx_eq, e1, nx_eq, e2, nx_eq, r4', show oI (x : Int) + 1 = oI ((x + 1 : Nat) : Int) from by rw [oI_lit, oI_add]; rfl, e5, gI_oI, w5, show oI ((x + 1 : Nat) : Int) - 1 = oI (x : Int) from by rw [oI_lit, oI_sub]; congr 1; show ((x + 1 : Nat) : Int) - 1 = x; omega]
  · rw [FG_I F5 (by omega), FG_I F2 (by omega), FG_I F1 (by omega)]; exact w0
  · rw [FG_I F5 (by omega), FG_I F2 (by omega)]; exact w1
  · rw [FG_I F5 (by omega)]; exact w2
theorem X8_addS {fl : Nat} {s3 s5 : Mem} (h3 : RO s3) (p3 : RO s5) (hk : F_X8_keeps fl 340 (pI s3 340 0 0) = some s5) {x : Nat} (e0 : iI s3 341 2 = x) (hx5 : iI s5 341 2 = x) (h6 : x < 4) {a b c : Int} (r1 : 0 ≤ a ∧ a < 60) (r2 : a ≤ b ∧ b ≤ 59) (r3 : 1 ≤ c ∧ c ≤ 14) :
    ∃ s6, F_X8_addSeason fl 340 (oI a) (oI b) (oI c) s3 = some (oI x, s6) ∧ FI s5 s6 (fun k j => k = 341 ∧ (j = 2 ∨ 38 + 3 * x ≤ j ∧ j < 38 + 3 * x + 3)) ∧ iI s6 341 2 = ((x + 1 : Nat) : Int) ∧ iI s6 341 (38 + 3 * x + 0) = a ∧ iI s6 341 (38 + 3 * x + 1) = b ∧ iI s6 341 (38 + 3 * x + 2) = c := by
  have t1 := X8_isNight (fl := fl) (s := s3) (p := a) (by omega) (by omega)
  have t2 := X8_in (fl := fl) (s := s3) (v := b) (a := a) (b := 59) (by omega) (by omega) (by omega) (by omega) (by omega) (by omega)
  have t3 : F_X8_in fl (oI c) 1 14 s3 = some (oB (1 ≤ c ∧ c ≤ 14)) := X8_in (v := c) (a := 1) (b := 14) (by omega) (by omega) (by omega) (by omega) (by omega) (by omega)
  obtain ⟨n0, e0', G0, y0⟩ := stF s5 341 (38 + 3 * x) (v := a) (by omega) (by omega)
  obtain ⟨n1, e1, G1, y1⟩ := stF n0 341 (38 + 3 * x + 1) (v := b) (by omega) (by omega)
  obtain ⟨n2, e2, G2, y2⟩ := stF n1 341 (38 + 3 * x + 2) (v := c) (by omega) (by omega)
  obtain ⟨s6, e5, G5, y5⟩ := stF n2 341 2 (v := ((x + 1 : Nat) : Int)) (by omega) (by omega)
  have z0 := FI_RO G0 p3
  have z1 := FI_RO G1 z0
  have z2 := FI_RO G2 z1
  have hx4 : iI n2 341 2 = x := by rw [G2.2 _ _ (by omega), G1.2 _ _ (by omega), G0.2 _ _ (by omega)]; exact hx5
  refine ⟨s6, ?_, FI_trans (FI_mono G0 (by omega)) (FI_trans (FI_mono G1 (by omega)) (FI_trans (FI_mono G2 (by omega)) (FI_mono G5 (by omega)))), y5, ?_, ?_, ?_⟩
  · unfold F_X8_addSeason
    rw [t1, bd_some, ifB_t r1, show (59 : Int32) = oI 59 from rfl, t2, bd_some, ifB_t r2, t3, bd_some, ifB_t r3, ld_340_1 h3, bd_some, gd_t (by decide), gI_oI, show (2 : Int32).toNatClampNeg = 2 from by decide]
    dsimp only
    rw [e0, if_neg (by rw [oI_lit, oI_eq (by omega) (by omega) (by decide) (by decide)]; show ¬ (x : Int) = 4; omega)]
    unfold B_X8_addSeason_47
    have hg : gI s5 341 (2 : Int32).toNatClampNeg = oI (x : Int) := by rw [gI_oI]; exact congrArg oI hx5
    rw [nx_eq, if_pos (th_0 _), hk, bd_some, ld_340_1 p3, bd_some]
    dsimp only
    rw [gd_t (by decide), hg]
    refine (stepW0 (i := 38 + 3 * oI (x : Int)) (k := 38 + 3 * x) (by rw [oI_lit, oI_lit, oI_mul, oI_add]; rfl) (by omega) _ _).trans ?_
    rw [e0']
    refine (stepW z0 (i := 38 + 3 * oI (x : Int) + 1) (k := 38 + 3 * x + 1) (by rw [oI_lit, oI_lit, oI_lit, oI_mul, oI_add, oI_add]; rfl) (by omega) _ _).trans ?_
    rw [e1]
    refine (stepW z1 (i := 38 + 3 * oI (x : Int) + 2) (k := 38 + 3 * x + 2) (by rw [oI_lit, oI_lit, oI_lit, oI_mul, oI_add, oI_add]; rfl) (by omega) _ _).trans ?_
    rw [e2]
    refine (stepW2 z2 (i := 2) (k := 2) rfl (by omega) (fun w => w + 1) _).trans ?_
    rw [gI_oI, hx4, show oI (x : Int) + 1 = oI ((x + 1 : Nat) : Int) from by rw [oI_lit, oI_add]; rfl, e5, ld_340_1 (FI_RO G5 z2), bd_some, gd_t (by decide)]
    have hg6 : gI s6 341 (2 : Int32).toNatClampNeg = oI ((x + 1 : Nat) : Int) := by rw [gI_oI]; exact congrArg oI y5
    dsimp only
    rw [hg6, show oI ((x + 1 : Nat) : Int) - 1 = oI (x : Int) from by rw [oI_lit, oI_sub]; congr 1; show ((x + 1 : Nat) : Int) - 1 = x; omega]
  · rw [G5.2 _ _ (by omega), G2.2 _ _ (by omega), G1.2 _ _ (by omega)]; exact y0
  · rw [G5.2 _ _ (by omega), G2.2 _ _ (by omega)]; exact y1
  · rw [G5.2 _ _ (by omega)]; exact y2
theorem LM_addSeason {fl : Nat} (hfl : 1000 ≤ fl) {s : Mem} (hI : Inv s) {a b c : Int} (a1 : -2147483648 ≤ a) (a2 : a < 2147483648) (b1 : -2147483648 ≤ b) (b2 : b < 2147483648) (c1 : -2147483648 ≤ c) (c2 : c < 2147483648) : Ans (F_L_addSeason fl 320 (oI a) (oI b) (oI c) 350) (F_X8_addSeason fl 340 (oI a) (oI b) (oI c)) s := by
  have hI' := hI
  obtain ⟨hs, -, ⟨hv, hc⟩, -⟩ := hI'
  have bn := VRn hv
  unfold VN at bn
  have u1 := X7_isNight (fl := fl) (s := s) a1 a2
  have u2 := X7_isNight (fl := fl) (s := s) b1 b2
  have u3 : F_X7_isWithin fl (oI c) 1 14 s = some (oB (1 ≤ c ∧ c ≤ 14)) := X7_isWithin (v := c) (a := 1) (b := 14) c1 c2 (by omega) (by omega) (by omega) (by omega)
  have t1 := X8_isNight (fl := fl) (s := s) a1 a2
  have t2 := X8_in (fl := fl) (s := s) (v := b) (a := a) (b := 59) b1 b2 a1 a2 (by omega) (by omega)
  have t3 : F_X8_in fl (oI c) 1 14 s = some (oB (1 ≤ c ∧ c ≤ 14)) := X8_in (v := c) (a := 1) (b := 14) c1 c2 (by omega) (by omega) (by omega) (by omega)
  have u4 : oI b < oI a ↔ b < a := oI_lt b1 b2 a1 a2
  by_cases hr : (0 ≤ a ∧ a < 60) ∧ (a ≤ b ∧ b ≤ 59) ∧ (1 ≤ c ∧ c ≤ 14)
  · obtain ⟨r1, r2, r3⟩ := hr
    obtain ⟨x, hx⟩ : ∃ x : Nat, iI s 341 2 = x := ⟨(iI s 341 2).toNat, by omega⟩
    by_cases h6 : x < 4
    · obtain ⟨cc, m, hh, m8, c8, hk⟩ := keepK hI
      obtain ⟨s1, k1, F1, k3, k4, k5⟩ := hk fl hfl
      have hs1 := FG_RO F1 hs
      obtain ⟨s2, g1, g2, g3, g4, g5, g6⟩ := X1_makeSeason (fl := fl) hs1 (x := x) (by rw [FG_I F1 (by unfold kpC cpC; omega), c_sc hc]; exact hx) h6 a1 a2 b1 b2 c1 c2
      have q1 : F_X7_addSeason fl 320 (oI a) (oI b) (oI c) s = some (.inr (oI x), s2) := by
        unfold F_X7_addSeason
        rw [u1, bd_some, ifB_t r1, u2, bd_some, ifB_t (by omega), if_neg (fun q => by have := u4.mp q; omega), u3, bd_some, ifB_t r3, ld_320_1 hs, bd_some, gI_oI, c_sc hc, hx, if_pos (by rw [oI_lit, oI_lt (by omega) (by omega) (by decide) (by decide)]; show (x : Int) < 4; omega), ld_320_4 hs, bd_some, bd_some, k1, bd_some, ld_320_1 hs1, bd_some, g1, bd_some]
      have F2 : FG s1 s2 (fun k j => k ≤ 26) := FG_mono g2 (by omega)
      obtain ⟨s5, p1, p2, p3, p4, p5, p6, p7, p8⟩ := midK hI hh F1 F2 (F4_th _ (Int32.toInt64 (oI x))) hfl
      have hx5 : iI s5 341 2 = x := by rw [p4 2 (by omega)]; exact hx
      have hs3 : RO (pL s2 350 0 (Int32.toInt64 (oI x))) := RO_L (FG_RO g2 hs1) _ _ _
      have e0 : iI (pL s2 350 0 (Int32.toInt64 (oI x))) 341 2 = x := by rw [iI_pL, FG_I g2 (by omega), FG_I F1 (by unfold kpC cpC; omega)]; exact hx
      obtain ⟨s6, f1, F6, v0, v1, v2, v3⟩ := X8_addS hs3 p3 p1 e0 hx5 h6 r1 r2 r3
      refine Ans_k hI hh F1 k3 k4 k5 p6 (md_sc F2 (F4_th _ _)) p2 (FI_mono F6 (by omega)) ?_ (by rw [p7]; exact th_z _) (by rw [p8]; exact gL_th _ _) (L_addSeason_v q1) f1
      have cf : ∀ k j, k ≤ 26 → iI s6 k j = iI s2 k j := fun k j hk => by rw [F6.2 k j (by omega), (p5 k j hk).1]
      refine Cmp_addSeason (s := s) ⟨hv, hc⟩ (x := x) hx h6 (fun k hk hn => ?_) (fun k j hk hn => ?_) (fun k hk => ?_) v0 (fun i hi => ?_) (by rw [cf 0 5 (by omega)]; exact g3) ?_
      · rw [F6.2 341 k (by omega)]; exact p4 k hk
      · rw [cf k j hk, FG_I g2 (by omega), FG_I F1 (by unfold kpC cpC; omega)]
      · rw [FI_L F6, (p5 k 6 hk).2, FG_L g2 (by omega), FG_L F1 (by unfold kpC cpC; omega)]
      · rw [cf (22 + x) i (by omega)]
        have : i = 0 ∨ i = 1 ∨ i = 2 := by omega
        rcases this with rfl | rfl | rfl
        · rw [g4, v1]
        · rw [g5, v2]
        · rw [g6, v3]
      · unfold VS
        rw [v1, v2, v3]
        omega
    · have q1 : F_X7_addSeason fl 320 (oI a) (oI b) (oI c) s = some (.inl 2, s) := by
        unfold F_X7_addSeason
        rw [u1, bd_some, ifB_t r1, u2, bd_some, ifB_t (by omega), if_neg (fun q => by have := u4.mp q; omega), u3, bd_some, ifB_t r3, ld_320_1 hs, bd_some, gI_oI, c_sc hc, hx, if_neg (by rw [oI_lit, oI_lt (by omega) (by omega) (by decide) (by decide)]; show ¬ (x : Int) < 4; omega)]
      refine Ans_e hI (c := 2) (v := 0) (by omega) (by omega) (L_addSeason_2 q1) ?_
      unfold F_X8_addSeason
      rw [t1, bd_some, ifB_t r1, show (59 : Int32) = oI 59 from rfl, t2, bd_some, ifB_t r2, t3, bd_some, ifB_t r3, ld_340_1 hs, bd_some, gd_t (by decide), gI_oI, show (2 : Int32).toNatClampNeg = 2 from by decide]
      dsimp only
      rw [hx, if_pos (by rw [oI_lit, oI_eq (by omega) (by omega) (by decide) (by decide)]; show (x : Int) = 4; omega)]
      unfold B_X8_addSeason_47
      rw [nx_eq, if_neg (th_n s (by decide))] <;> rfl
  · have q1 : F_X7_addSeason fl 320 (oI a) (oI b) (oI c) s = some (.inl 1, s) := by
      unfold F_X7_addSeason B_X7_addSeason_29
      rw [u1, bd_some]
      by_cases r1 : 0 ≤ a ∧ a < 60
      · rw [ifB_t r1, u2, bd_some]
        by_cases r2 : 0 ≤ b ∧ b < 60
        · rw [ifB_t r2]
          by_cases r4 : b < a
          · rw [if_pos (u4.mpr r4)]
          · rw [if_neg (fun q => r4 (u4.mp q)), u3, bd_some, ifB_f (fun r3 => hr ⟨r1, by omega, r3⟩)]
        · rw [ifB_f r2]
      · rw [ifB_f r1]
    refine Ans_e hI (c := 1) (v := 0) (by omega) (by omega) (L_addSeason_1 q1) ?_
    have bad : B_X8_addSeason_28 fl 340 (oI a) (oI b) (oI c) 340 s = some (0, pI s 340 0 (oI (1 : Nat))) := by
      unfold B_X8_addSeason_28 B_X8_addSeason_47
      rw [nx_eq, if_neg (th_n s (by decide))] <;> rfl
    unfold F_X8_addSeason
    rw [t1, bd_some]
    by_cases r1 : 0 ≤ a ∧ a < 60
    · rw [ifB_t r1, show (59 : Int32) = oI 59 from rfl, t2, bd_some]
      by_cases r2 : a ≤ b ∧ b ≤ 59
      · rw [ifB_t r2, t3, bd_some, ifB_f (fun r3 => hr ⟨r1, r2, r3⟩), bad]
      · rw [ifB_f r2, bad]
    · rw [ifB_f r1, bad]
-- a season dropped
theorem X1_removeL {fl : Nat} {n : Nat} (hn : n < 4) : ∀ (m i : Nat) (s : Mem) (k : Nat), i + m = n → m < k → RO s → iI s 0 5 = ((n + 1 : Nat) : Int) →
    ∃ s', B_X1_removeSeason_2 fl k 0 (oI i) s = some s' ∧ FG s s' (fun k j => k = 0 ∧ j = 5 ∨ 22 + i ≤ k ∧ k < 22 + n ∧ j < 3) ∧ iI s' 0 5 = (n : Int) ∧ ∀ j f, i ≤ j → j < n → f < 3 → iI s' (22 + j) f = iI s (22 + j + 1) f := by
  intro m
  induction m with
  | zero =>
    intro i s k h hk hs h5
    obtain ⟨k, rfl⟩ : ∃ k', k = k' + 1 := ⟨k - 1, by omega⟩
    have e5 : gI s 0 5 = oI ((n + 1 : Nat) : Int) := by rw [gI_oI, h5]
    refine ⟨pI s 0 5 (oI n), ?_, FG_p _ _ _ _ (Or.inl ⟨rfl, rfl⟩), iI_pe (by omega) (by omega), fun j f h1 h2 => by omega⟩
    unfold B_X1_removeSeason_2
    rw [e5, show oI (i : Int) + 1 = oI ((i + 1 : Nat) : Int) from by rw [oI_lit, oI_add]; rfl, if_pos (by rw [oI_le (by omega) (by omega) (by omega) (by omega)]; omega), nx_eq, show oI ((n + 1 : Nat) : Int) - 1 = oI (n : Int) from by rw [oI_lit, oI_sub]; congr 1; show ((n + 1 : Nat) : Int) - 1 = n; omega]
  | succ m ih =>
    intro i s k h hk hs h5
    obtain ⟨k, rfl⟩ : ∃ k', k = k' + 1 := ⟨k - 1, by omega⟩
    have e5 : gI s 0 5 = oI ((n + 1 : Nat) : Int) := by rw [gI_oI, h5]
    obtain ⟨s1, f1, F, f3⟩ := X6_copyFrom (fl := fl) (s := s) (a := 22 + i) (b := 22 + (i + 1)) (by omega)
    obtain ⟨s', g1, g2, g3, g4⟩ := ih (i + 1) s1 k (by omega) (by omega) (FG_RO F hs) (by rw [FG_I F (by omega)]; exact h5)
    refine ⟨s', ?_, FG_trans (FG_mono F (by omega)) (FG_mono g2 (by omega)), g3, fun j f h1 h2 h3 => ?_⟩
    · unfold B_X1_removeSeason_2
      rw [e5, show oI (i : Int) + 1 = oI ((i + 1 : Nat) : Int) from by rw [oI_lit, oI_add]; rfl, if_neg (by rw [oI_le (by omega) (by omega) (by omega) (by omega)]; omega), ld_04 hs, bd_some]
      dsimp only
      rw [gd_t ((oI_inR (by omega) (by omega)).mpr (by omega)), ldSn hs (by omega), bd_some, bd_some]
      dsimp only
      rw [gd_t ((oI_inR (by omega) (by omega)).mpr (by omega)), ldSn hs (by omega), bd_some, f1, bd_some]
      exact g1
    · by_cases hj : j = i
      · subst hj
        rw [FG_I g2 (by omega), f3 f h3, show 22 + (j + 1) = 22 + j + 1 by omega]
      · rw [g4 j f (by omega) h2 h3, FG_I F (by omega)]
theorem X8_dropL {fl : Nat} {n : Nat} (hn : n < 4) : ∀ (m i : Nat) (s : Mem) (k : Nat), i + m = 38 + 3 * n → 38 ≤ i → m < k → RO s → iI s 341 2 = (n : Int) →
    ∃ s', B_X8_dropSeason_55 fl k 340 (oI i) s = some (oI n, s') ∧ FI s s' (fun k j => k = 341 ∧ i ≤ j ∧ j < 38 + 3 * n) ∧ ∀ j, i ≤ j → j < 38 + 3 * n → iI s' 341 j = iI s 341 (j + 3) := by
  intro m
  induction m with
  | zero =>
    intro i s k h hi hk hs h2
    obtain ⟨k, rfl⟩ : ∃ k', k = k' + 1 := ⟨k - 1, by omega⟩
    refine ⟨s, ?_, FI_refl _ _, fun j h1 h2 => by omega⟩
    unfold B_X8_dropSeason_55
    simp (disch := omega) only [bd_some, nx_eq, xb_r, xb_l, xc_r, xc_l, oI_lit, oI_nI, oI_add, oI_sub, oI_mul, oI_neg, gI_oI, ldA_I, ldA_L, ldO_I, ldO_L, oB_z, oB_o, gd_oB, lgc0n, oI_litN, ← Int.natCast_add, ← Int.natCast_mul, Int.toNat_natCast, if_true, if_false, oI_le, oI_lt, oI_eq, oI_nat, oI_inR, gd_t, ld_340_1 hs, h2]
    rw [if_pos (by omega)]
  | succ m ih =>
    intro i s k h hi hk hs h2
    obtain ⟨k, rfl⟩ : ∃ k', k = k' + 1 := ⟨k - 1, by omega⟩
    have F : FI s (pI s 341 i (oI (iI s 341 (i + 3)))) (fun k j => k = 341 ∧ j = i) := FI_p _ _ _ _ ⟨rfl, rfl⟩
    obtain ⟨s', g1, g2, g3⟩ := ih (i + 1) (pI s 341 i (oI (iI s 341 (i + 3)))) k (by omega) (by omega) (by omega) hs (by rw [F.2 _ _ (by omega)]; exact h2)
    refine ⟨s', ?_, FI_trans (FI_mono F (by omega)) (FI_mono g2 (by omega)), fun j h1 h2 => ?_⟩
    · unfold B_X8_dropSeason_55
      simp (disch := omega) only [bd_some, nx_eq, xb_r, xb_l, xc_r, xc_l, oI_lit, oI_nI, oI_add, oI_sub, oI_mul, oI_neg, gI_oI, ldA_I, ldA_L, ldO_I, ldO_L, oB_z, oB_o, gd_oB, lgc0n, oI_litN, ← Int.natCast_add, ← Int.natCast_mul, Int.toNat_natCast, if_true, if_false, oI_le, oI_lt, oI_eq, oI_nat, oI_inR, gd_t, ld_340_1 hs, h2]
      rw [if_neg (by omega)]
      exact g1
    · by_cases hj : j = i
      · subst hj
        rw [g2.2 341 j (by omega), iI_pe (iI_lo _ _ _) (iI_hi _ _ _)]
      · rw [g3 j (by omega) h2, F.2 341 _ (by omega)]
theorem LM_dropSeason {fl : Nat} (hfl : 1000 ≤ fl) {s : Mem} (hI : Inv s) {a : Int} (a1 : -2147483648 ≤ a) (a2 : a < 2147483648) : Ans (F_L_dropSeason fl 320 (oI a) 350) (F_X8_dropSeason fl 340 (oI a)) s := by
  have hI' := hI
  obtain ⟨hs, -, ⟨hv, hc⟩, -⟩ := hI'
  have bn := VRn hv
  unfold VN at bn
  have t1 : ∀ s', F_X8_in fl (oI a) 0 (oI (iI s 341 2) - 1) s' = some (oB (0 ≤ a ∧ a ≤ iI s 341 2 - 1)) := fun s' => by
    rw [show oI (iI s 341 2) - 1 = oI (iI s 341 2 - 1) from by rw [oI_lit, oI_sub], n0_o]
    exact X8_in a1 a2 (by omega) (by omega) (by omega) (by omega)
  have hd : ∀ s', RO s' → iI s' 341 2 = iI s 341 2 → F_X8_dropSeason fl 340 (oI a) s' = if oB (0 ≤ a ∧ a ≤ iI s 341 2 - 1) = 0 then B_X8_dropSeason_22 fl 340 (oI a) 340 1 s' else B_X8_dropSeason_22 fl 340 (oI a) 340 0 s' := fun s' h1 h2 => by
    unfold F_X8_dropSeason
    rw [ld_340_1 h1, bd_some, gd_t (by decide), gI_oI, show (2 : Int32).toNatClampNeg = 2 from by decide]
    dsimp only
    rw [h2, t1, bd_some]
  by_cases ha : 0 ≤ a ∧ a < iI s 341 2
  · obtain ⟨x, rfl⟩ : ∃ x : Nat, a = x := ⟨a.toNat, by omega⟩
    obtain ⟨n, hn⟩ : ∃ n : Nat, iI s 341 2 = ((n + 1 : Nat) : Int) := ⟨(iI s 341 2).toNat - 1, by omega⟩
    obtain ⟨cc, m, hh, m8, c8, hk⟩ := keepK hI
    obtain ⟨s1, k1, F1, k3, k4, k5⟩ := hk fl hfl
    have hs1 := FG_RO F1 hs
    obtain ⟨s2, g1, g2, g3, g4⟩ := X1_removeL (fl := fl) (n := n) (by omega) (n - x) x s1 fl (by omega) (by omega) hs1 (by rw [FG_I F1 (by unfold kpC cpC; omega), c_sc hc]; exact hn)
    have hs2 := FG_RO g2 hs1
    have q1 : F_X7_dropSeason fl 320 (oI x) s = some (.inr (oI n), s2) := by
      unfold F_X7_dropSeason F_X1_removeSeason
      rw [rqS_y hs hc (by omega) (by omega) (by omega) (by omega), bd_some, xb_r, ld_320_4 hs, bd_some, ld_320_1 hs, bd_some, k1, bd_some, ld_320_1 hs1, bd_some, g1, bd_some, ld_320_1 hs2, bd_some, gI_oI, g3]
    have F2 : FG s1 s2 (fun k j => k ≤ 26) := FG_mono g2 (by omega)
    obtain ⟨s5, p1, p2, p3, p4, p5, p6, p7, p8⟩ := midK hI hh F1 F2 (F4_th _ (Int32.toInt64 (oI n))) hfl
    have hx5 : gI s5 341 (2 : Int32).toNatClampNeg = oI ((n + 1 : Nat) : Int) := by
      rw [gI_oI]
      exact congrArg oI ((p4 2 (by omega)).trans hn)
    have hs3 : RO (pL s2 350 0 (Int32.toInt64 (oI n))) := RO_L hs2 _ _ _
    have e0 : iI (pL s2 350 0 (Int32.toInt64 (oI n))) 341 2 = iI s 341 2 := by rw [iI_pL, FG_I g2 (by omega), FG_I F1 (by unfold kpC cpC; omega)]
    have G : FI s5 (pI s5 341 2 (oI n)) (fun k j => k = 341 ∧ j = 2) := FI_p _ _ _ _ ⟨rfl, rfl⟩
    obtain ⟨s6, f1, F6, f3⟩ := X8_dropL (fl := fl) (n := n) (by omega) (3 * (n - x)) (38 + 3 * x) (pI s5 341 2 (oI n)) fl (by omega) (by omega) (by omega) p3 (iI_pe (by omega) (by omega))
    have FF : FI s5 s6 (fun k j => k = 341 ∧ (j = 2 ∨ 38 + 3 * x ≤ j ∧ j < 38 + 3 * n)) := FI_trans (FI_mono G (by omega)) (FI_mono F6 (by omega))
    refine Ans_k hI hh F1 k3 k4 k5 p6 (md_sc F2 (F4_th _ _)) p2 (FI_mono FF (by omega)) ?_ (by rw [p7]; exact th_z _) (by rw [p8]; exact gL_th _ _) (L_dropSeason_v q1) ?_
    · have cf : ∀ k j, k ≤ 26 → iI s6 k j = iI s2 k j := fun k j hk => by rw [FF.2 k j (by omega), (p5 k j hk).1]
      refine Cmp_dropSeason (s := s) ⟨hv, hc⟩ (x := x) (n := n) hn (by omega) (fun k hk hnn => ?_) (fun k j hk hnn => ?_) (fun k hk => ?_) ?_ (fun j i h1 h2 h3 => ?_) (fun j i h1 h2 h3 => ?_) (by rw [cf 0 5 (by omega)]; exact g3)
      · rw [FF.2 341 k (by omega)]; exact p4 k hk
      · rw [cf k j hk, FG_I g2 (by omega), FG_I F1 (by unfold kpC cpC; omega)]
      · rw [FI_L FF, (p5 k 6 hk).2, FG_L g2 (by omega), FG_L F1 (by unfold kpC cpC; omega)]
      · rw [F6.2 341 2 (by omega), iI_pe (by omega) (by omega)]
      · rw [cf (22 + j) i (by omega), g4 j i h1 h2 h3, FG_I F1 (by unfold kpC cpC; omega)]
      · rw [f3 _ (by omega) (by omega), G.2 341 _ (by omega), show 38 + 3 * j + i + 3 = 38 + 3 * j + 3 + i by omega, p4 _ (by omega)]
    · rw [hd _ hs3 e0, ifB_t (by omega)]
      unfold B_X8_dropSeason_22
      rw [nx_eq, if_pos (th_0 _), p1, bd_some]
      refine (stepW2 p3 (i := 2) (k := 2) rfl (by omega) (fun w => w - 1) _).trans ?_
      rw [show gI s5 341 2 = oI ((n + 1 : Nat) : Int) from hx5, show oI ((n + 1 : Nat) : Int) - 1 = oI (n : Int) from by rw [oI_lit, oI_sub]; congr 1; show ((n + 1 : Nat) : Int) - 1 = n; omega, show (38 : Int32) + 3 * oI (x : Int) = oI ((38 + 3 * x : Nat) : Int) from by rw [oI_lit, oI_lit, oI_mul, oI_add]; rfl]
      exact f1
  · have q1 : F_X7_dropSeason fl 320 (oI a) s = some (.inl 3, s) := by
      unfold F_X7_dropSeason
      rw [rqS_n hs hc (by omega) (by omega) (by omega) ha]
      rfl
    refine Ans_e hI (c := 1) (v := 0) (by omega) (by omega) (L_dropSeason_1 q1) ?_
    rw [hd s hs rfl, ifB_f (by omega)]
    unfold B_X8_dropSeason_22
    rw [nx_eq, if_neg (th_n s (by decide))] <;> rfl
