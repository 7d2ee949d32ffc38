theorem Ans_e {fL f8 : Mem → Option (Int32 × Mem)} {s : Mem} (hI : Inv s) {c : Nat} (h0 : 1 ≤ c) (hc : c < 9) {v : Int32} (h1 : fL s = some (oI c, s)) (h2 : f8 s = some (v, pI s 340 0 (oI c))) : Ans fL f8 s := by
  refine ⟨oI c, s, v, pI s 340 0 (oI c), h1, h2, ?_, fun h => ?_, Inv_sc (FG_p _ _ _ _ (by unfold scC; omega)) hI⟩
  · rw [gI_oI, iI_pe (by omega) (by omega)]
  · exfalso
    rw [oI_lit, oI_eq (by omega) (by omega) (by decide) (by decide)] at h
    have h' : (c : Int) = 0 := h
    omega
theorem Ans_v {fL f8 : Mem → Option (Int32 × Mem)} {s : Mem} (hI : Inv s) {v : Int32} {s2 : Mem} (h1 : fL s = some (oI (0 : Nat), pL s 350 0 (Int32.toInt64 v))) (h2 : f8 (pL s 350 0 (Int32.toInt64 v)) = some (v, s2)) (h3 : FI (pL s 350 0 (Int32.toInt64 v)) s2 scC) (h4 : iI s2 340 0 = 0) : Ans fL f8 s := by
  refine ⟨oI (0 : Nat), _, v, s2, h1, h2, ?_, fun h => ?_, Inv_sc (FG_FI h3) (Inv_sc (FG_pL _ _ _ _ (by unfold scC; omega)) hI)⟩
  · rw [gI_oI, h4]; rfl
  · rw [FI_L h3, gL_p, if_pos ⟨rfl, rfl⟩]
theorem Inv_pl {s : Mem} (hI : Inv s) (v : Int64) : Inv (pL s 350 0 v) := Inv_sc (FG_pL _ _ _ _ (by unfold scC; omega)) hI
theorem Ans_w {fL f8 : Mem → Option (Int32 × Mem)} {s : Mem} (hI : Inv s) {v : Int32} (h1 : fL s = some (oI (0 : Nat), pL s 350 0 (Int32.toInt64 v))) (h2 : ∀ s1, Inv s1 → FG s s1 scC → ∃ s2, f8 s1 = some (v, s2) ∧ FI s1 s2 scC ∧ iI s2 340 0 = 0) : Ans fL f8 s := by
  obtain ⟨s2, g1, g2, g3⟩ := h2 _ (Inv_pl hI (Int32.toInt64 v)) (FG_pL _ _ _ _ (by unfold scC; omega))
  exact Ans_v hI h1 g1 g2 g3
theorem sc41 {s s1 : Mem} (F : FG s s1 scC) (k : Nat) : iI s1 341 k = iI s 341 k := FG_I F (by unfold scC; omega)
theorem FI_th (s : Mem) (v : Int32) : FI s (pI s 340 0 v) scC := FI_p _ _ _ _ (by unfold scC; omega)
theorem th_e (s : Mem) (c : Nat) (h : c < 9) : iI (pI s 340 0 (oI c)) 340 0 = c := iI_pe (by omega) (by omega)
-- the class's guards
theorem rqP_y {fl : Nat} {s : Mem} (hs : RO s) (hc : CR s 0 (iI s 341)) {p : Int} (h1 : -2147483648 ≤ p) (h2 : p < 2147483648) (h : 0 ≤ p ∧ p < iI s 341 0) : F_X7_requirePitch fl 320 (oI p) s = some (.inr (), s) := by
  unfold F_X7_requirePitch
  simp (disch := omega) only [bd_some, nx_eq, xb_r, xb_l, xc_r, xc_l, oI_lit, oI_nI, oI_add, oI_sub, oI_mul, oI_neg, gI_oI, ldA_I, ldA_L, ldO_I, ldO_L, oB_z, oB_o, gd_oB, lgc0n, oI_litN, ← Int.natCast_add, ← Int.natCast_mul, Int.toNat_natCast, if_true, if_false, oI_le, oI_lt, oI_eq, oI_nat, oI_inR, gd_t, ld_320_1 hs, X1_hasPitch hc]
  rw [if_neg (by omega)]
theorem rqP_n {fl : Nat} {s : Mem} (hs : RO s) (hc : CR s 0 (iI s 341)) {p : Int} (h1 : -2147483648 ≤ p) (h2 : p < 2147483648) (h : ¬ (0 ≤ p ∧ p < iI s 341 0)) : F_X7_requirePitch fl 320 (oI p) s = some (.inl 3, s) := by
  unfold F_X7_requirePitch
  simp (disch := omega) only [bd_some, nx_eq, xb_r, xb_l, xc_r, xc_l, oI_lit, oI_nI, oI_add, oI_sub, oI_mul, oI_neg, gI_oI, ldA_I, ldA_L, ldO_I, ldO_L, oB_z, oB_o, gd_oB, lgc0n, oI_litN, ← Int.natCast_add, ← Int.natCast_mul, Int.toNat_natCast, if_true, if_false, oI_le, oI_lt, oI_eq, oI_nat, oI_inR, gd_t, ld_320_1 hs, X1_hasPitch hc]
  rw [if_pos (by omega)]
theorem rqQ_y {fl : Nat} {s : Mem} (hs : RO s) (hc : CR s 0 (iI s 341)) {p : Int} (h1 : -2147483648 ≤ p) (h2 : p < 2147483648) (h3 : 0 ≤ iI s 341 1) (h : 0 ≤ p ∧ p < iI s 341 1) : F_X7_requireParty fl 320 (oI p) s = some (.inr (), s) := by
  have b := iI_hi s 341 1
  unfold F_X7_requireParty
  simp (disch := omega) only [bd_some, nx_eq, xb_r, xb_l, xc_r, xc_l, oI_lit, oI_nI, oI_add, oI_sub, oI_mul, oI_neg, gI_oI, ldA_I, ldA_L, ldO_I, ldO_L, oB_z, oB_o, gd_oB, lgc0n, oI_litN, ← Int.natCast_add, ← Int.natCast_mul, Int.toNat_natCast, if_true, if_false, oI_le, oI_lt, oI_eq, oI_nat, oI_inR, gd_t, ld_320_1 hs, c_qc hc, X7_isWithin]
  rw [if_neg (by omega)]
theorem rqQ_n {fl : Nat} {s : Mem} (hs : RO s) (hc : CR s 0 (iI s 341)) {p : Int} (h1 : -2147483648 ≤ p) (h2 : p < 2147483648) (h3 : 0 ≤ iI s 341 1) (h : ¬ (0 ≤ p ∧ p < iI s 341 1)) : F_X7_requireParty fl 320 (oI p) s = some (.inl 3, s) := by
  have b := iI_hi s 341 1
  unfold F_X7_requireParty
  simp (disch := omega) only [bd_some, nx_eq, xb_r, xb_l, xc_r, xc_l, oI_lit, oI_nI, oI_add, oI_sub, oI_mul, oI_neg, gI_oI, ldA_I, ldA_L, ldO_I, ldO_L, oB_z, oB_o, gd_oB, lgc0n, oI_litN, ← Int.natCast_add, ← Int.natCast_mul, Int.toNat_natCast, if_true, if_false, oI_le, oI_lt, oI_eq, oI_nat, oI_inR, gd_t, ld_320_1 hs, c_qc hc, X7_isWithin]
  rw [if_pos (by omega)]
theorem rqS_y {fl : Nat} {s : Mem} (hs : RO s) (hc : CR s 0 (iI s 341)) {p : Int} (h1 : -2147483648 ≤ p) (h2 : p < 2147483648) (h3 : 0 ≤ iI s 341 2) (h : 0 ≤ p ∧ p < iI s 341 2) : F_X7_requireSeason fl 320 (oI p) s = some (.inr (), s) := by
  have b := iI_hi s 341 2
  unfold F_X7_requireSeason
  simp (disch := omega) only [bd_some, nx_eq, xb_r, xb_l, xc_r, xc_l, oI_lit, oI_nI, oI_add, oI_sub, oI_mul, oI_neg, gI_oI, ldA_I, ldA_L, ldO_I, ldO_L, oB_z, oB_o, gd_oB, lgc0n, oI_litN, ← Int.natCast_add, ← Int.natCast_mul, Int.toNat_natCast, if_true, if_false, oI_le, oI_lt, oI_eq, oI_nat, oI_inR, gd_t, ld_320_1 hs, c_sc hc, X7_isWithin]
  rw [if_neg (by omega)]
theorem rqS_n {fl : Nat} {s : Mem} (hs : RO s) (hc : CR s 0 (iI s 341)) {p : Int} (h1 : -2147483648 ≤ p) (h2 : p < 2147483648) (h3 : 0 ≤ iI s 341 2) (h : ¬ (0 ≤ p ∧ p < iI s 341 2)) : F_X7_requireSeason fl 320 (oI p) s = some (.inl 3, s) := by
  have b := iI_hi s 341 2
  unfold F_X7_requireSeason
  simp (disch := omega) only [bd_some, nx_eq, xb_r, xb_l, xc_r, xc_l, oI_lit, oI_nI, oI_add, oI_sub, oI_mul, oI_neg, gI_oI, ldA_I, ldA_L, ldO_I, ldO_L, oB_z, oB_o, gd_oB, lgc0n, oI_litN, ← Int.natCast_add, ← Int.natCast_mul, Int.toNat_natCast, if_true, if_false, oI_le, oI_lt, oI_eq, oI_nat, oI_inR, gd_t, ld_320_1 hs, c_sc hc, X7_isWithin]
  rw [if_pos (by omega)]
theorem rqC_y {fl : Nat} {s : Mem} {p : Int} (h1 : -2147483648 ≤ p) (h2 : p < 2147483648) (h : 0 ≤ p ∧ p < 3) : F_X7_requireCircuit fl (oI p) s = some (.inr (), s) := by
  unfold F_X7_requireCircuit
  simp (disch := omega) only [bd_some, nx_eq, xb_r, xb_l, xc_r, xc_l, oI_lit, oI_nI, oI_add, oI_sub, oI_mul, oI_neg, gI_oI, ldA_I, ldA_L, ldO_I, ldO_L, oB_z, oB_o, gd_oB, lgc0n, oI_litN, ← Int.natCast_add, ← Int.natCast_mul, Int.toNat_natCast, if_true, if_false, oI_le, oI_lt, oI_eq, oI_nat, oI_inR, gd_t, X7_isCircuit]
  rw [if_neg (by omega)]
theorem rqC_n {fl : Nat} {s : Mem} {p : Int} (h1 : -2147483648 ≤ p) (h2 : p < 2147483648) (h : ¬ (0 ≤ p ∧ p < 3)) : F_X7_requireCircuit fl (oI p) s = some (.inl 3, s) := by
  unfold F_X7_requireCircuit
  simp (disch := omega) only [bd_some, nx_eq, xb_r, xb_l, xc_r, xc_l, oI_lit, oI_nI, oI_add, oI_sub, oI_mul, oI_neg, gI_oI, ldA_I, ldA_L, ldO_I, ldO_L, oB_z, oB_o, gd_oB, lgc0n, oI_litN, ← Int.natCast_add, ← Int.natCast_mul, Int.toNat_natCast, if_true, if_false, oI_le, oI_lt, oI_eq, oI_nat, oI_inR, gd_t, X7_isCircuit]
  rw [if_pos (by omega)]
theorem rqN_y {fl : Nat} {s : Mem} {p : Int} (h1 : -2147483648 ≤ p) (h2 : p < 2147483648) (h : 0 ≤ p ∧ p < 60) : F_X7_requireNight fl (oI p) s = some (.inr (), s) := by
  unfold F_X7_requireNight
  simp (disch := omega) only [bd_some, nx_eq, xb_r, xb_l, xc_r, xc_l, oI_lit, oI_nI, oI_add, oI_sub, oI_mul, oI_neg, gI_oI, ldA_I, ldA_L, ldO_I, ldO_L, oB_z, oB_o, gd_oB, lgc0n, oI_litN, ← Int.natCast_add, ← Int.natCast_mul, Int.toNat_natCast, if_true, if_false, oI_le, oI_lt, oI_eq, oI_nat, oI_inR, gd_t, X7_isNight]
  rw [if_neg (by omega)]
theorem rqN_n {fl : Nat} {s : Mem} {p : Int} (h1 : -2147483648 ≤ p) (h2 : p < 2147483648) (h : ¬ (0 ≤ p ∧ p < 60)) : F_X7_requireNight fl (oI p) s = some (.inl 3, s) := by
  unfold F_X7_requireNight
  simp (disch := omega) only [bd_some, nx_eq, xb_r, xb_l, xc_r, xc_l, oI_lit, oI_nI, oI_add, oI_sub, oI_mul, oI_neg, gI_oI, ldA_I, ldA_L, ldO_I, ldO_L, oB_z, oB_o, gd_oB, lgc0n, oI_litN, ← Int.natCast_add, ← Int.natCast_mul, Int.toNat_natCast, if_true, if_false, oI_le, oI_lt, oI_eq, oI_nat, oI_inR, gd_t, X7_isNight]
  rw [if_pos (by omega)]
