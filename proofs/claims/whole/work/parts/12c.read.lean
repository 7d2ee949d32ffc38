theorem hdQ {α : Type} {fl : Nat} {s : Mem} (hs : RO s) (hc : CR s 0 (iI s 341)) {j : Nat} (hj : (j : Int) < iI s 341 1) (h12 : iI s 341 1 ≤ 12) (f : Mem → Nat → Option ((Nat ⊕ α) × Mem)) :
    (bd (F_X7_requireParty fl 320 (oI j) s) fun q1 => xb q1 fun u9 s3 => bd (ldO s3 320 1 3) fun r7 => bd (ldA s3 r7 2 5) fun r9 => gd (inR (oI j) r9.2) <| bd (ldO s3 r9.1 (oI j).toNatClampNeg 5) fun r12 => f s3 r12) = f s (9 + j) := by
  rw [rqQ_y hs hc (by omega) (by omega) (by omega) (by omega), bd_some, xb_r, ld_320_1 hs, bd_some, ld_02 hs, bd_some]
  dsimp only
  rw [gd_t ((oI_inR (by omega) (by omega)).mpr (by omega)), oI_nat (by omega) (by omega), Int.toNat_natCast, ld_q hs (by omega), bd_some]
theorem hdP {α : Type} {fl : Nat} {s : Mem} (hs : RO s) (hc : CR s 0 (iI s 341)) {j : Nat} (hj : (j : Int) < iI s 341 0) (h12 : iI s 341 0 ≤ 6) (f : Mem → Nat → Option ((Nat ⊕ α) × Mem)) :
    (bd (F_X7_requirePitch fl 320 (oI j) s) fun q1 => xb q1 fun u9 s3 => bd (ldO s3 320 1 3) fun r7 => bd (ldA s3 r7 0 4) fun r9 => gd (inR (oI j) r9.2) <| bd (ldO s3 r9.1 (oI j).toNatClampNeg 6) fun r12 => f s3 r12) = f s (2 + j) := by
  rw [rqP_y hs hc (by omega) (by omega) (by omega), bd_some, xb_r, ld_320_1 hs, bd_some, ld_00 hs, bd_some]
  dsimp only
  rw [gd_t ((oI_inR (by omega) (by omega)).mpr (by omega)), oI_nat (by omega) (by omega), Int.toNat_natCast, ld_p hs (by omega), bd_some]
theorem LM_season {fl : Nat} {s : Mem} (hI : Inv s) {a b : Int} (a1 : -2147483648 ≤ a) (a2 : a < 2147483648) (b1 : -2147483648 ≤ b) (b2 : b < 2147483648) : Ans (F_L_season fl 320 (oI a) (oI b) 350) (F_X8_season fl 340 (oI a) (oI b)) s := by
  have hI' := hI
  obtain ⟨hs, -, ⟨hv, hc⟩, -⟩ := hI'
  have bn := VRn hv
  unfold VN at bn
  by_cases ha : 0 ≤ a ∧ a < iI s 341 2
  · obtain ⟨j, rfl⟩ : ∃ j : Nat, a = j := ⟨a.toNat, by omega⟩
    by_cases hb : 0 ≤ b ∧ b ≤ 2
    · obtain ⟨f, rfl⟩ : ∃ f : Nat, b = f := ⟨b.toNat, by omega⟩
      have q1 : F_X7_season fl 320 (oI j) (oI f) s = some (.inr (oI (iI s 341 (38 + 3 * j + f))), s) := by
        unfold F_X7_season
        have : f = 0 ∨ f = 1 ∨ f = 2 := by omega
        rcases this with rfl | rfl | rfl
        all_goals simp (disch := omega) only [bd_some, nx_eq, xb_r, xb_l, xc_r, xc_l, oI_lit, oI_nI, oI_add, oI_sub, oI_mul, oI_neg, gI_oI, ldA_I, ldA_L, ldO_I, ldO_L, oB_z, oB_o, gd_oB, lgc0n, oI_litN, ← Int.natCast_add, ← Int.natCast_mul, Int.toNat_natCast, if_true, if_false, oI_le, oI_lt, oI_eq, oI_nat, oI_inR, gd_t, ld_00 hs, ld_02 hs, ld_04 hs, ld_06 hs, ld_p hs, ld_q hs, ld_s hs, c_pc hc, c_qc hc, c_sc hc, c_tn hc, c_gp hc, c_lm hc, c_p hc, c_s hc, c_q hc, c_q7 hc, c_q8 hc, c_q9 hc, c_q10 hc, c_qL hc, ld_320_1 hs, rqS_y hs hc]
        · rw [if_neg (by omega)]
        · rw [if_neg (by omega), if_neg (by omega)]
      refine Ans_w hI (L_season_v q1) fun s1 hI1 F => ?_
      have hs1 := hI1.1
      refine ⟨_, ?_, FI_th s1 (oI (0 : Nat)), th_e s1 0 (by omega)⟩
      unfold F_X8_season B_X8_season_35
      simp (disch := omega) only [bd_some, nx_eq, xb_r, xb_l, xc_r, xc_l, oI_lit, oI_nI, oI_add, oI_sub, oI_mul, oI_neg, gI_oI, ldA_I, ldA_L, ldO_I, ldO_L, oB_z, oB_o, gd_oB, lgc0n, oI_litN, ← Int.natCast_add, ← Int.natCast_mul, Int.toNat_natCast, if_true, if_false, oI_le, oI_lt, oI_eq, oI_nat, oI_inR, gd_t, ld_340_1 hs1, X8_in, iI_pe, iI_pn, sc41 F]
      rw [if_neg (by omega), if_neg (by omega)]
    · have q1 : F_X7_season fl 320 (oI j) (oI b) s = some (.inl 1, s) := by
        unfold F_X7_season
        simp (disch := omega) only [bd_some, nx_eq, xb_r, xb_l, xc_r, xc_l, oI_lit, oI_nI, oI_add, oI_sub, oI_mul, oI_neg, gI_oI, ldA_I, ldA_L, ldO_I, ldO_L, oB_z, oB_o, gd_oB, lgc0n, oI_litN, ← Int.natCast_add, ← Int.natCast_mul, Int.toNat_natCast, if_true, if_false, oI_le, oI_lt, oI_eq, oI_nat, oI_inR, gd_t, ld_00 hs, ld_02 hs, ld_04 hs, ld_06 hs, ld_p hs, ld_q hs, ld_s hs, c_pc hc, c_qc hc, c_sc hc, c_tn hc, c_gp hc, c_lm hc, c_p hc, c_s hc, c_q hc, c_q7 hc, c_q8 hc, c_q9 hc, c_q10 hc, c_qL hc, ld_320_1 hs, rqS_y hs hc]
        rw [if_neg (by omega), if_neg (by omega), if_neg (by omega)]
      refine Ans_e hI (c := 2) (v := oI (0 : Nat)) (by omega) (by omega) (L_season_2 q1) ?_
      unfold F_X8_season B_X8_season_35
      simp (disch := omega) only [bd_some, nx_eq, xb_r, xb_l, xc_r, xc_l, oI_lit, oI_nI, oI_add, oI_sub, oI_mul, oI_neg, gI_oI, ldA_I, ldA_L, ldO_I, ldO_L, oB_z, oB_o, gd_oB, lgc0n, oI_litN, ← Int.natCast_add, ← Int.natCast_mul, Int.toNat_natCast, if_true, if_false, oI_le, oI_lt, oI_eq, oI_nat, oI_inR, gd_t, ld_340_1 hs, X8_in, iI_pe, iI_pn]
      rw [if_neg (by omega), if_pos (by omega), if_neg (by omega)]
  · have q1 : F_X7_season fl 320 (oI a) (oI b) s = some (.inl 3, s) := by
      unfold F_X7_season
      simp (disch := omega) only [bd_some, nx_eq, xb_r, xb_l, xc_r, xc_l, oI_lit, oI_nI, oI_add, oI_sub, oI_mul, oI_neg, gI_oI, ldA_I, ldA_L, ldO_I, ldO_L, oB_z, oB_o, gd_oB, lgc0n, oI_litN, ← Int.natCast_add, ← Int.natCast_mul, Int.toNat_natCast, if_true, if_false, oI_le, oI_lt, oI_eq, oI_nat, oI_inR, gd_t, rqS_n hs hc]
    refine Ans_e hI (c := 1) (v := oI (0 : Nat)) (by omega) (by omega) (L_season_1 q1) ?_
    unfold F_X8_season B_X8_season_35
    simp (disch := omega) only [bd_some, nx_eq, xb_r, xb_l, xc_r, xc_l, oI_lit, oI_nI, oI_add, oI_sub, oI_mul, oI_neg, gI_oI, ldA_I, ldA_L, ldO_I, ldO_L, oB_z, oB_o, gd_oB, lgc0n, oI_litN, ← Int.natCast_add, ← Int.natCast_mul, Int.toNat_natCast, if_true, if_false, oI_le, oI_lt, oI_eq, oI_nat, oI_inR, gd_t, ld_340_1 hs, X8_in, iI_pe, iI_pn]
    rw [if_pos (by omega), if_neg (by omega)]
theorem LM_leastStay {fl : Nat} (hfl : 1000 ≤ fl) {s : Mem} (hI : Inv s) {a b : Int} (a1 : -2147483648 ≤ a) (a2 : a < 2147483648) (b1 : -2147483648 ≤ b) (b2 : b < 2147483648) : Ans (F_L_leastStay fl 320 (oI a) (oI b) 350) (F_X8_leastStay fl 340 (oI a) (oI b)) s := by
  have hI' := hI
  obtain ⟨hs, -, ⟨hv, hc⟩, -⟩ := hI'
  by_cases ha : 0 ≤ a ∧ a < 60 ∧ 1 ≤ b ∧ b ≤ 14 ∧ a + b ≤ 60
  · have q1 : F_X7_leastStay fl 320 (oI a) (oI b) s = some (.inr (oI (askd s a b)), s) := by
      unfold F_X7_leastStay
      simp (disch := omega) only [bd_some, nx_eq, xb_r, xb_l, xc_r, xc_l, oI_lit, oI_nI, oI_add, oI_sub, oI_mul, oI_neg, gI_oI, ldA_I, ldA_L, ldO_I, ldO_L, oB_z, oB_o, gd_oB, lgc0n, oI_litN, ← Int.natCast_add, ← Int.natCast_mul, Int.toNat_natCast, if_true, if_false, oI_le, oI_lt, oI_eq, oI_nat, oI_inR, gd_t, ld_320_1 hs, X7_isStay, X1_stayAsked hfl hs hc hv]
      rw [if_neg (by omega)]
    refine Ans_w hI (L_leastStay_v q1) fun s1 hI1 F => ?_
    have hI1' := hI1
    obtain ⟨hs1, -, ⟨hv1, -⟩, -⟩ := hI1'
    have hm : RO (pI s1 340 0 (oI (0 : Nat))) := hs1
    refine ⟨_, ?_, FI_th s1 (oI (0 : Nat)), th_e s1 0 (by omega)⟩
    have q2 := X8_asked (fl := fl) hfl hm (VR_vS (s := pI s1 340 0 (oI (0 : Nat))) hv1) (f := a) (n := b) (by omega) (by omega) (by omega) (by omega)
    rw [askd_41 (M := s) (M' := pI s1 340 0 (oI (0 : Nat))) (fun k => by rw [iI_pn (Or.inl (by omega)), sc41 F])] at q2
    unfold F_X8_leastStay B_X8_leastStay_34
    simp (disch := omega) only [bd_some, nx_eq, xb_r, xb_l, xc_r, xc_l, oI_lit, oI_nI, oI_add, oI_sub, oI_mul, oI_neg, gI_oI, ldA_I, ldA_L, ldO_I, ldO_L, oB_z, oB_o, gd_oB, lgc0n, oI_litN, ← Int.natCast_add, ← Int.natCast_mul, Int.toNat_natCast, if_true, if_false, oI_le, oI_lt, oI_eq, oI_nat, oI_inR, gd_t, X8_in, X8_isNight, iI_pe, q2]
    rw [if_neg (by omega), if_neg (by omega), if_neg (by omega)]
  · have q1 : F_X7_leastStay fl 320 (oI a) (oI b) s = some (.inl 1, s) := by
      unfold F_X7_leastStay
      simp (disch := omega) only [bd_some, nx_eq, xb_r, xb_l, xc_r, xc_l, oI_lit, oI_nI, oI_add, oI_sub, oI_mul, oI_neg, gI_oI, ldA_I, ldA_L, ldO_I, ldO_L, oB_z, oB_o, gd_oB, lgc0n, oI_litN, ← Int.natCast_add, ← Int.natCast_mul, Int.toNat_natCast, if_true, if_false, oI_le, oI_lt, oI_eq, oI_nat, oI_inR, gd_t, X7_isStay]
      rw [if_pos (by omega)]
    refine Ans_e hI (c := 1) (v := oI (0 : Nat)) (by omega) (by omega) (L_leastStay_1 q1) ?_
    unfold F_X8_leastStay B_X8_leastStay_33 B_X8_leastStay_34
    simp (disch := omega) only [bd_some, nx_eq, xb_r, xb_l, xc_r, xc_l, oI_lit, oI_nI, oI_add, oI_sub, oI_mul, oI_neg, gI_oI, ldA_I, ldA_L, ldO_I, ldO_L, oB_z, oB_o, gd_oB, lgc0n, oI_litN, ← Int.natCast_add, ← Int.natCast_mul, Int.toNat_natCast, if_true, if_false, oI_le, oI_lt, oI_eq, oI_nat, oI_inR, gd_t, X8_isNight]
    by_cases h1 : 0 ≤ a ∧ a < 60
    · rw [if_neg (by omega)]
      simp (disch := omega) only [bd_some, nx_eq, xb_r, xb_l, xc_r, xc_l, oI_lit, oI_nI, oI_add, oI_sub, oI_mul, oI_neg, gI_oI, ldA_I, ldA_L, ldO_I, ldO_L, oB_z, oB_o, gd_oB, lgc0n, oI_litN, ← Int.natCast_add, ← Int.natCast_mul, Int.toNat_natCast, if_true, if_false, oI_le, oI_lt, oI_eq, oI_nat, oI_inR, gd_t, X8_in, iI_pe]
      by_cases h2 : 1 ≤ b ∧ b ≤ 14
      · rw [if_neg (by omega)]
        simp (disch := omega) only [bd_some, nx_eq, xb_r, xb_l, xc_r, xc_l, oI_lit, oI_nI, oI_add, oI_sub, oI_mul, oI_neg, gI_oI, ldA_I, ldA_L, ldO_I, ldO_L, oB_z, oB_o, gd_oB, lgc0n, oI_litN, ← Int.natCast_add, ← Int.natCast_mul, Int.toNat_natCast, if_true, if_false, oI_le, oI_lt, oI_eq, oI_nat, oI_inR, gd_t, X8_isNight, iI_pe]
        rw [if_pos (by omega), if_neg (by omega)]
      · rw [if_pos (by omega), if_neg (by omega)]
    · rw [if_pos (by omega)]
      simp (disch := omega) only [bd_some, nx_eq, xb_r, xb_l, xc_r, xc_l, oI_lit, oI_nI, oI_add, oI_sub, oI_mul, oI_neg, gI_oI, ldA_I, ldA_L, ldO_I, ldO_L, oB_z, oB_o, gd_oB, lgc0n, oI_litN, ← Int.natCast_add, ← Int.natCast_mul, Int.toNat_natCast, if_true, if_false, oI_le, oI_lt, oI_eq, oI_nat, oI_inR, gd_t, iI_pe]
      rw [if_neg (by omega)]
theorem LM_party {fl : Nat} {s : Mem} (hI : Inv s) {a b : Int} (a1 : -2147483648 ≤ a) (a2 : a < 2147483648) (b1 : -2147483648 ≤ b) (b2 : b < 2147483648) : Ans (F_L_party fl 320 (oI a) (oI b) 350) (F_X8_party fl 340 (oI a) (oI b)) s := by
  have hI' := hI
  obtain ⟨hs, -, ⟨hv, hc⟩, -⟩ := hI'
  have bn := VRn hv
  unfold VN at bn
  by_cases ha : 0 ≤ a ∧ a < iI s 341 1
  · obtain ⟨j, rfl⟩ : ∃ j : Nat, a = j := ⟨a.toNat, by omega⟩
    have vq := VRq hv (q := j) (by omega)
    unfold VQ at vq
    by_cases hb : 0 ≤ b ∧ b ≤ 9
    · obtain ⟨f, rfl⟩ : ∃ f : Nat, b = f := ⟨b.toNat, by omega⟩
      have q1 : F_X7_party fl 320 (oI j) (oI f) s = some (.inr (oI (iI s 341 (50 + 10 * j + f))), s) := by
        unfold F_X7_party
        have : f = 0 ∨ f = 1 ∨ f = 2 ∨ f = 3 ∨ f = 4 ∨ f = 5 ∨ f = 6 ∨ f = 7 ∨ f = 8 ∨ f = 9 := by omega
        refine (hdQ hs hc (j := j) (by omega) (by omega) _).trans ?_
        rcases this with rfl | rfl | rfl | rfl | rfl | rfl | rfl | rfl | rfl | rfl
        · rw [if_pos (by decide), gI_oI, c_q hc (q := j) (f := 0) (by omega) (by omega)]
        · rw [if_neg (by decide), if_pos (by decide), gI_oI, c_q hc (q := j) (f := 1) (by omega) (by omega)]
        · rw [if_neg (by decide), if_neg (by decide), if_pos (by decide), gI_oI, c_q hc (q := j) (f := 2) (by omega) (by omega)]
        · rw [if_neg (by decide), if_neg (by decide), if_neg (by decide), if_pos (by decide), gI_oI, c_q hc (q := j) (f := 3) (by omega) (by omega)]
        · rw [if_neg (by decide), if_neg (by decide), if_neg (by decide), if_neg (by decide), if_pos (by decide), gI_oI, c_q hc (q := j) (f := 4) (by omega) (by omega)]
        · rw [if_neg (by decide), if_neg (by decide), if_neg (by decide), if_neg (by decide), if_neg (by decide), if_pos (by decide), gI_oI, c_q hc (q := j) (f := 5) (by omega) (by omega)]
        · rw [if_neg (by decide), if_neg (by decide), if_neg (by decide), if_neg (by decide), if_neg (by decide), if_neg (by decide), if_pos (by decide), gI_oI, c_q7 hc (q := j) (by omega)]
        · rw [if_neg (by decide), if_neg (by decide), if_neg (by decide), if_neg (by decide), if_neg (by decide), if_neg (by decide), if_neg (by decide), if_pos (by decide), gI_oI, c_q8 hc (q := j) (by omega)]
        · rw [if_neg (by decide), if_neg (by decide), if_neg (by decide), if_neg (by decide), if_neg (by decide), if_neg (by decide), if_neg (by decide), if_neg (by decide), if_pos (by decide), gI_oI, c_q10 hc (q := j) (by omega)]
          by_cases h8 : iI s 341 (50 + 10 * j + 8) = 0
          · rw [h8, if_pos (by decide)]; rfl
          · rw [show iI s 341 (50 + 10 * j + 8) = 1 by omega, if_neg (by decide)]; rfl
        · rw [if_neg (by decide), if_neg (by decide), if_neg (by decide), if_neg (by decide), if_neg (by decide), if_neg (by decide), if_neg (by decide), if_neg (by decide), if_neg (by decide), if_pos (by decide), gI_oI, c_q9 hc (q := j) (by omega)]
      refine Ans_w hI (L_party_v q1) fun s1 hI1 F => ?_
      have hs1 := hI1.1
      have hm : RO (pI s1 340 0 (oI (0 : Nat))) := hs1
      refine ⟨_, ?_, FI_th s1 (oI (0 : Nat)), th_e s1 0 (by omega)⟩
      have e1 := sc41 F 1
      unfold F_X8_party B_X8_party_28
      simp (disch := omega) only [bd_some, nx_eq, xb_r, xb_l, xc_r, xc_l, oI_lit, oI_nI, oI_add, oI_sub, oI_mul, oI_neg, gI_oI, ldA_I, ldA_L, ldO_I, ldO_L, oB_z, oB_o, gd_oB, lgc0n, oI_litN, ← Int.natCast_add, ← Int.natCast_mul, Int.toNat_natCast, if_true, if_false, oI_le, oI_lt, oI_eq, oI_nat, oI_inR, gd_t, X8_in, X8_isParty hs1, X8_of hm, iI_pe, iI_pn, sc41 F]
      rw [if_neg (by omega), if_neg (by omega)]
    · have q1 : F_X7_party fl 320 (oI j) (oI b) s = some (.inl 1, s) := by
        have hk : ∀ x : Int32, (∃ k : Nat, k < 10 ∧ x = oI k) → ¬ oI b = x := fun x ⟨k, hk, hx⟩ h => by
          rw [hx, oI_eq b1 b2 (by omega) (by omega)] at h
          omega
        unfold F_X7_party
        refine (hdQ hs hc (j := j) (by omega) (by omega) _).trans ?_
        rw [if_neg (hk 0 ⟨0, by omega, rfl⟩), if_neg (hk 1 ⟨1, by omega, rfl⟩), if_neg (hk 2 ⟨2, by omega, rfl⟩), if_neg (hk 3 ⟨3, by omega, rfl⟩), if_neg (hk 4 ⟨4, by omega, rfl⟩), if_neg (hk 5 ⟨5, by omega, rfl⟩), if_neg (hk 6 ⟨6, by omega, rfl⟩), if_neg (hk 7 ⟨7, by omega, rfl⟩), if_neg (hk 8 ⟨8, by omega, rfl⟩), if_neg (hk 9 ⟨9, by omega, rfl⟩)]
      refine Ans_e hI (c := 2) (v := oI (0 : Nat)) (by omega) (by omega) (L_party_2 q1) ?_
      unfold F_X8_party B_X8_party_28
      simp (disch := omega) only [bd_some, nx_eq, xb_r, xb_l, xc_r, xc_l, oI_lit, oI_nI, oI_add, oI_sub, oI_mul, oI_neg, gI_oI, ldA_I, ldA_L, ldO_I, ldO_L, oB_z, oB_o, gd_oB, lgc0n, oI_litN, ← Int.natCast_add, ← Int.natCast_mul, Int.toNat_natCast, if_true, if_false, oI_le, oI_lt, oI_eq, oI_nat, oI_inR, gd_t, X8_isParty hs, X8_in, iI_pe, iI_pn]
      rw [if_neg (by omega), if_pos (by omega), if_neg (by omega)]
  · have q1 : F_X7_party fl 320 (oI a) (oI b) s = some (.inl 3, s) := by
      unfold F_X7_party
      rw [rqQ_n hs hc (by omega) (by omega) (by omega) (by omega)]
      rfl
    refine Ans_e hI (c := 1) (v := oI (0 : Nat)) (by omega) (by omega) (L_party_1 q1) ?_
    unfold F_X8_party B_X8_party_28
    simp (disch := omega) only [bd_some, nx_eq, xb_r, xb_l, xc_r, xc_l, oI_lit, oI_nI, oI_add, oI_sub, oI_mul, oI_neg, gI_oI, ldA_I, ldA_L, ldO_I, ldO_L, oB_z, oB_o, gd_oB, lgc0n, oI_litN, ← Int.natCast_add, ← Int.natCast_mul, Int.toNat_natCast, if_true, if_false, oI_le, oI_lt, oI_eq, oI_nat, oI_inR, gd_t, X8_isParty hs, X8_in, iI_pe, iI_pn]
    rw [if_pos (by omega), if_neg (by omega)]
theorem LM_moveOf {fl : Nat} {s : Mem} (hI : Inv s) {a b : Int} (a1 : -2147483648 ≤ a) (a2 : a < 2147483648) (b1 : -2147483648 ≤ b) (b2 : b < 2147483648) : Ans (F_L_moveOf fl 320 (oI a) (oI b) 350) (F_X8_moveOf fl 340 (oI a) (oI b)) s := by
  have hI' := hI
  obtain ⟨hs, -, -, -, -, -, hl, -⟩ := hI'
  obtain ⟨l1, l2, l3, l4⟩ := hl
  by_cases ha : 0 ≤ a ∧ a < iI s 340 15
  · obtain ⟨j, rfl⟩ : ∃ j : Nat, a = j := ⟨a.toNat, by omega⟩
    by_cases hb : 0 ≤ b ∧ b ≤ 2
    · obtain ⟨f, rfl⟩ : ∃ f : Nat, b = f := ⟨b.toNat, by omega⟩
      have q1 : F_X7_moveOf fl 320 (oI j) (oI f) s = some (.inr (oI (iI s 339 (j * 3 + f))), s) := by
        unfold F_X7_moveOf
        simp (disch := omega) only [bd_some, nx_eq, xb_r, xb_l, xc_r, xc_l, oI_lit, oI_nI, oI_add, oI_sub, oI_mul, oI_neg, gI_oI, ldA_I, ldA_L, ldO_I, ldO_L, oB_z, oB_o, gd_oB, lgc0n, oI_litN, ← Int.natCast_add, ← Int.natCast_mul, Int.toNat_natCast, if_true, if_false, oI_le, oI_lt, oI_eq, oI_nat, oI_inR, gd_t, X7_isWithin, l1, ld_320_8 hs]
        rw [if_neg (by omega), if_neg (by omega)]
      rw [l4 (j * 3 + f) (by omega) (by omega)] at q1
      refine Ans_w hI (L_moveOf_v q1) fun s1 hI1 F => ?_
      have hs1 := hI1.1
      have e1 : iI s1 340 15 = iI s 340 15 := FG_I F (by unfold scC; omega)
      have e2 : iI s1 348 (3 * j + f) = iI s 348 (j * 3 + f) := by rw [Nat.mul_comm]; exact FG_I F (by unfold scC; omega)
      refine ⟨_, ?_, FI_th s1 (oI (0 : Nat)), th_e s1 0 (by omega)⟩
      unfold F_X8_moveOf B_X8_moveOf_33
      simp (disch := omega) only [bd_some, nx_eq, xb_r, xb_l, xc_r, xc_l, oI_lit, oI_nI, oI_add, oI_sub, oI_mul, oI_neg, gI_oI, ldA_I, ldA_L, ldO_I, ldO_L, oB_z, oB_o, gd_oB, lgc0n, oI_litN, ← Int.natCast_add, ← Int.natCast_mul, Int.toNat_natCast, if_true, if_false, oI_le, oI_lt, oI_eq, oI_nat, oI_inR, gd_t, X8_in, ld_340_16 hs1, iI_pe, iI_pn, e1, e2]
      rw [if_neg (by omega), if_neg (by omega)]
    · have q1 : F_X7_moveOf fl 320 (oI j) (oI b) s = some (.inl 1, s) := by
        unfold F_X7_moveOf
        simp (disch := omega) only [bd_some, nx_eq, xb_r, xb_l, xc_r, xc_l, oI_lit, oI_nI, oI_add, oI_sub, oI_mul, oI_neg, gI_oI, ldA_I, ldA_L, ldO_I, ldO_L, oB_z, oB_o, gd_oB, lgc0n, oI_litN, ← Int.natCast_add, ← Int.natCast_mul, Int.toNat_natCast, if_true, if_false, oI_le, oI_lt, oI_eq, oI_nat, oI_inR, gd_t, X7_isWithin, l1]
        rw [if_neg (by omega), if_pos (by omega)]
      refine Ans_e hI (c := 2) (v := oI (0 : Nat)) (by omega) (by omega) (L_moveOf_2 q1) ?_
      unfold F_X8_moveOf B_X8_moveOf_33
      simp (disch := omega) only [bd_some, nx_eq, xb_r, xb_l, xc_r, xc_l, oI_lit, oI_nI, oI_add, oI_sub, oI_mul, oI_neg, gI_oI, ldA_I, ldA_L, ldO_I, ldO_L, oB_z, oB_o, gd_oB, lgc0n, oI_litN, ← Int.natCast_add, ← Int.natCast_mul, Int.toNat_natCast, if_true, if_false, oI_le, oI_lt, oI_eq, oI_nat, oI_inR, gd_t, X8_in, iI_pe, iI_pn]
      rw [if_neg (by omega), if_pos (by omega), if_neg (by omega)]
  · have q1 : F_X7_moveOf fl 320 (oI a) (oI b) s = some (.inl 6, s) := by
      unfold F_X7_moveOf
      simp (disch := omega) only [bd_some, nx_eq, xb_r, xb_l, xc_r, xc_l, oI_lit, oI_nI, oI_add, oI_sub, oI_mul, oI_neg, gI_oI, ldA_I, ldA_L, ldO_I, ldO_L, oB_z, oB_o, gd_oB, lgc0n, oI_litN, ← Int.natCast_add, ← Int.natCast_mul, Int.toNat_natCast, if_true, if_false, oI_le, oI_lt, oI_eq, oI_nat, oI_inR, gd_t, X7_isWithin, l1]
      rw [if_pos (by omega)]
    refine Ans_e hI (c := 1) (v := oI (0 : Nat)) (by omega) (by omega) (L_moveOf_1 q1) ?_
    unfold F_X8_moveOf B_X8_moveOf_33
    simp (disch := omega) only [bd_some, nx_eq, xb_r, xb_l, xc_r, xc_l, oI_lit, oI_nI, oI_add, oI_sub, oI_mul, oI_neg, gI_oI, ldA_I, ldA_L, ldO_I, ldO_L, oB_z, oB_o, gd_oB, lgc0n, oI_litN, ← Int.natCast_add, ← Int.natCast_mul, Int.toNat_natCast, if_true, if_false, oI_le, oI_lt, oI_eq, oI_nat, oI_inR, gd_t, X8_in, iI_pe, iI_pn]
    rw [if_pos (by omega), if_neg (by omega)]
theorem LM_refusal {fl : Nat} {s : Mem} (hI : Inv s) : Ans (F_L_refusal fl 320 350) (F_X8_refusal fl 340) s := by
  have hI' := hI
  obtain ⟨hs, -, -, -, -, ⟨r1, r2, r3⟩, -⟩ := hI'
  by_cases h : iI s 340 14 = 0
  · have q1 : F_X7_refusal fl 320 s = some (.inl 6, s) := by
      unfold F_X7_refusal
      simp (disch := omega) only [bd_some, nx_eq, xb_r, xb_l, xc_r, xc_l, oI_lit, oI_nI, oI_add, oI_sub, oI_mul, oI_neg, gI_oI, ldA_I, ldA_L, ldO_I, ldO_L, oB_z, oB_o, gd_oB, lgc0n, oI_litN, ← Int.natCast_add, ← Int.natCast_mul, Int.toNat_natCast, if_true, if_false, oI_le, oI_lt, oI_eq, oI_nat, oI_inR, gd_t, r1]
      rw [if_pos (by omega)]
    refine Ans_e hI (c := 1) (v := oI (iI s 340 14)) (by omega) (by omega) (L_refusal_1 q1) ?_
    unfold F_X8_refusal
    simp (disch := omega) only [bd_some, nx_eq, xb_r, xb_l, xc_r, xc_l, oI_lit, oI_nI, oI_add, oI_sub, oI_mul, oI_neg, gI_oI, ldA_I, ldA_L, ldO_I, ldO_L, oB_z, oB_o, gd_oB, lgc0n, oI_litN, ← Int.natCast_add, ← Int.natCast_mul, Int.toNat_natCast, if_true, if_false, oI_le, oI_lt, oI_eq, oI_nat, oI_inR, gd_t, iI_pe, iI_pn]
    rw [if_pos (by omega)]
  · have q1 : F_X7_refusal fl 320 s = some (.inr (oI (iI s 340 14)), s) := by
      unfold F_X7_refusal
      simp (disch := omega) only [bd_some, nx_eq, xb_r, xb_l, xc_r, xc_l, oI_lit, oI_nI, oI_add, oI_sub, oI_mul, oI_neg, gI_oI, ldA_I, ldA_L, ldO_I, ldO_L, oB_z, oB_o, gd_oB, lgc0n, oI_litN, ← Int.natCast_add, ← Int.natCast_mul, Int.toNat_natCast, if_true, if_false, oI_le, oI_lt, oI_eq, oI_nat, oI_inR, gd_t, r1]
      rw [if_neg (by omega)]
    refine Ans_w hI (L_refusal_v q1) fun s1 hI1 F => ?_
    have e1 : iI s1 340 14 = iI s 340 14 := FG_I F (by unfold scC; omega)
    refine ⟨_, ?_, FI_th s1 (oI (0 : Nat)), th_e s1 0 (by omega)⟩
    unfold F_X8_refusal
    simp (disch := omega) only [bd_some, nx_eq, xb_r, xb_l, xc_r, xc_l, oI_lit, oI_nI, oI_add, oI_sub, oI_mul, oI_neg, gI_oI, ldA_I, ldA_L, ldO_I, ldO_L, oB_z, oB_o, gd_oB, lgc0n, oI_litN, ← Int.natCast_add, ← Int.natCast_mul, Int.toNat_natCast, if_true, if_false, oI_le, oI_lt, oI_eq, oI_nat, oI_inR, gd_t, iI_pe, iI_pn, e1]
    rw [if_neg (by omega)]
