-- sums over the parties
def suH (s : Mem) (part bk : Int) (q : Nat) : Int := if iI s 341 (50 + 10 * q + 8) = bk then (if 0 ≤ part then iI s 341 (50 + 10 * q + part.toNat) else 1) else 0
theorem X8_sumL {fl : Nat} {s : Mem} (hs : RO s) {part bk : Int} (p1 : -1 ≤ part) (p2 : part < 10) (b1 : 0 ≤ bk) (b2 : bk ≤ 1) : ∀ (m i : Nat) (a : Int) (k : Nat), iI s 341 1 = ((i + m : Nat) : Int) → i + m ≤ 12 → m < k →
    B_X8_sum_5 fl s k 340 (oI part) (oI bk) (oI a) (oI i) = some (oI (itr (fun a q => a + suH s part bk q) m i a)) := by
  intro m
  induction m with
  | zero =>
    intro i a k h h2 hk
    obtain ⟨k, rfl⟩ : ∃ k', k = k' + 1 := ⟨k - 1, by omega⟩
    unfold B_X8_sum_5
    simp (disch := omega) only [bd_some, nx_eq, xb_r, xb_l, xc_r, xc_l, oI_lit, oI_nI, oI_add, oI_sub, oI_mul, oI_neg, gI_oI, ldA_I, ldA_L, ldO_I, ldO_L, oB_z, oB_o, gd_oB, lgc0n, oI_litN, ← Int.natCast_add, ← Int.natCast_mul, Int.toNat_natCast, if_true, if_false, oI_le, oI_lt, oI_eq, oI_nat, oI_inR, gd_t, ld_340_1 hs]
    rw [if_pos (by omega)]
    rfl
  | succ m ih =>
    intro i a k h h2 hk
    obtain ⟨k, rfl⟩ : ∃ k', k = k' + 1 := ⟨k - 1, by omega⟩
    have c0 := iI_lo s 341 (50 + 10 * i + 8)
    have c1 := iI_hi s 341 (50 + 10 * i + 8)
    show _ = some (oI (itr (fun a q => a + suH s part bk q) m (i + 1) (a + suH s part bk i)))
    by_cases hp : 0 ≤ part
    · obtain ⟨f, rfl⟩ : ∃ f : Nat, part = f := ⟨part.toNat, by omega⟩
      unfold B_X8_sum_5 B_X8_sum_48
      simp (disch := omega) only [bd_some, nx_eq, xb_r, xb_l, xc_r, xc_l, oI_lit, oI_nI, oI_add, oI_sub, oI_mul, oI_neg, gI_oI, ldA_I, ldA_L, ldO_I, ldO_L, oB_z, oB_o, gd_oB, lgc0n, oI_litN, ← Int.natCast_add, ← Int.natCast_mul, Int.toNat_natCast, if_true, if_false, oI_le, oI_lt, oI_eq, oI_nat, oI_inR, gd_t, ld_340_1 hs, X8_of hs]
      rw [if_neg (by omega)]
      by_cases hb : iI s 341 (50 + 10 * i + 8) = bk
      · rw [if_pos hb, if_pos (by omega), show suH s f bk i = iI s 341 (50 + 10 * i + f) from by unfold suH; rw [if_pos hb, if_pos hp, Int.toNat_natCast]]
        exact ih (i + 1) _ k (by omega) (by omega) (by omega)
      · rw [if_neg hb, show suH s f bk i = 0 from if_neg hb]
        exact ih (i + 1) _ k (by omega) (by omega) (by omega)
    · unfold B_X8_sum_5 B_X8_sum_48
      simp (disch := omega) only [bd_some, nx_eq, xb_r, xb_l, xc_r, xc_l, oI_lit, oI_nI, oI_add, oI_sub, oI_mul, oI_neg, gI_oI, ldA_I, ldA_L, ldO_I, ldO_L, oB_z, oB_o, gd_oB, lgc0n, oI_litN, ← Int.natCast_add, ← Int.natCast_mul, Int.toNat_natCast, if_true, if_false, oI_le, oI_lt, oI_eq, oI_nat, oI_inR, gd_t, ld_340_1 hs, X8_of hs]
      rw [if_neg (by omega)]
      by_cases hb : iI s 341 (50 + 10 * i + 8) = bk
      · rw [if_pos hb, show suH s part bk i = 1 from by unfold suH; rw [if_pos hb, if_neg hp]]
        split
        · exfalso; omega
        · exact ih (i + 1) _ k (by omega) (by omega) (by omega)
      · rw [if_neg hb, show suH s part bk i = 0 from if_neg hb]
        exact ih (i + 1) _ k (by omega) (by omega) (by omega)
theorem X8_sum {fl : Nat} (hfl : 1000 ≤ fl) {s : Mem} (hs : RO s) {part bk : Int} (p1 : -1 ≤ part) (p2 : part < 10) (b1 : 0 ≤ bk) (b2 : bk ≤ 1) (q1 : 0 ≤ iI s 341 1) (q2 : iI s 341 1 ≤ 12) : F_X8_sum fl 340 (oI part) (oI bk) s = some (oI (sm (suH s part bk) (iI s 341 1).toNat 0)) := by
  unfold F_X8_sum
  exact X8_sumL hs p1 p2 b1 b2 (iI s 341 1).toNat 0 0 fl (by omega) (by omega) (by omega)
theorem X1_countBookedL {fl : Nat} {s : Mem} (hs : RO s) (hc : CR s 0 (iI s 341)) (hv : VR (iI s 341)) : ∀ (m i : Nat) (a : Int) (k : Nat), iI s 341 1 = ((i + m : Nat) : Int) → m < k →
    B_X1_countBooked_4 fl s k 0 (oI a) (oI i) = some (oI (itr (fun a q => a + suH s (-1) 1 q) m i a)) := by
  have b := VRn hv
  unfold VN at b
  intro m
  induction m with
  | zero =>
    intro i a k h hk
    obtain ⟨k, rfl⟩ : ∃ k', k = k' + 1 := ⟨k - 1, by omega⟩
    unfold B_X1_countBooked_4
    simp (disch := omega) only [bd_some, nx_eq, xb_r, xb_l, xc_r, xc_l, oI_lit, oI_nI, oI_add, oI_sub, oI_mul, oI_neg, gI_oI, ldA_I, ldA_L, ldO_I, ldO_L, oB_z, oB_o, gd_oB, lgc0n, oI_litN, ← Int.natCast_add, ← Int.natCast_mul, Int.toNat_natCast, if_true, if_false, oI_le, oI_lt, oI_eq, oI_nat, oI_inR, gd_t, ld_00 hs, ld_02 hs, ld_04 hs, ld_06 hs, ld_p hs, ld_q hs, ld_s hs, c_pc hc, c_qc hc, c_sc hc, c_tn hc, c_gp hc, c_lm hc, c_p hc, c_s hc, c_q hc, c_q7 hc, c_q8 hc, c_q9 hc, c_q10 hc, c_qL hc]
    rw [if_pos (by omega)]
    rfl
  | succ m ih =>
    intro i a k h hk
    obtain ⟨k, rfl⟩ : ∃ k', k = k' + 1 := ⟨k - 1, by omega⟩
    have d := VRq hv (q := i) (by omega)
    unfold VQ at d
    unfold B_X1_countBooked_4 B_X1_countBooked_27
    simp (disch := omega) only [bd_some, nx_eq, xb_r, xb_l, xc_r, xc_l, oI_lit, oI_nI, oI_add, oI_sub, oI_mul, oI_neg, gI_oI, ldA_I, ldA_L, ldO_I, ldO_L, oB_z, oB_o, gd_oB, lgc0n, oI_litN, ← Int.natCast_add, ← Int.natCast_mul, Int.toNat_natCast, if_true, if_false, oI_le, oI_lt, oI_eq, oI_nat, oI_inR, gd_t, ld_00 hs, ld_02 hs, ld_04 hs, ld_06 hs, ld_p hs, ld_q hs, ld_s hs, c_pc hc, c_qc hc, c_sc hc, c_tn hc, c_gp hc, c_lm hc, c_p hc, c_s hc, c_q hc, c_q7 hc, c_q8 hc, c_q9 hc, c_q10 hc, c_qL hc]
    rw [if_neg (by omega)]
    show _ = some (oI (itr (fun a q => a + suH s (-1) 1 q) m (i + 1) (a + suH s (-1) 1 i)))
    by_cases hb : iI s 341 (50 + 10 * i + 8) = 1
    · rw [if_neg (by omega), show suH s (-1) 1 i = 1 from by unfold suH; rw [if_pos hb, if_neg (by omega)]]
      exact ih (i + 1) _ k (by omega) (by omega)
    · rw [if_pos (by omega), show suH s (-1) 1 i = 0 from if_neg hb, Int.add_zero]
      exact ih (i + 1) _ k (by omega) (by omega)
theorem X1_sumPricesL {fl : Nat} {s : Mem} (hs : RO s) (hc : CR s 0 (iI s 341)) (hv : VR (iI s 341)) : ∀ (m i : Nat) (a : Int) (k : Nat), iI s 341 1 = ((i + m : Nat) : Int) → m < k →
    B_X1_sumPrices_4 fl s k 0 (oI a) (oI i) = some (oI (itr (fun a q => a + suH s 7 1 q) m i a)) := by
  have b := VRn hv
  unfold VN at b
  intro m
  induction m with
  | zero =>
    intro i a k h hk
    obtain ⟨k, rfl⟩ : ∃ k', k = k' + 1 := ⟨k - 1, by omega⟩
    unfold B_X1_sumPrices_4
    simp (disch := omega) only [bd_some, nx_eq, xb_r, xb_l, xc_r, xc_l, oI_lit, oI_nI, oI_add, oI_sub, oI_mul, oI_neg, gI_oI, ldA_I, ldA_L, ldO_I, ldO_L, oB_z, oB_o, gd_oB, lgc0n, oI_litN, ← Int.natCast_add, ← Int.natCast_mul, Int.toNat_natCast, if_true, if_false, oI_le, oI_lt, oI_eq, oI_nat, oI_inR, gd_t, ld_00 hs, ld_02 hs, ld_04 hs, ld_06 hs, ld_p hs, ld_q hs, ld_s hs, c_pc hc, c_qc hc, c_sc hc, c_tn hc, c_gp hc, c_lm hc, c_p hc, c_s hc, c_q hc, c_q7 hc, c_q8 hc, c_q9 hc, c_q10 hc, c_qL hc]
    rw [if_pos (by omega)]
    rfl
  | succ m ih =>
    intro i a k h hk
    obtain ⟨k, rfl⟩ : ∃ k', k = k' + 1 := ⟨k - 1, by omega⟩
    have d := VRq hv (q := i) (by omega)
    unfold VQ at d
    unfold B_X1_sumPrices_4 B_X1_sumPrices_36
    simp (disch := omega) only [bd_some, nx_eq, xb_r, xb_l, xc_r, xc_l, oI_lit, oI_nI, oI_add, oI_sub, oI_mul, oI_neg, gI_oI, ldA_I, ldA_L, ldO_I, ldO_L, oB_z, oB_o, gd_oB, lgc0n, oI_litN, ← Int.natCast_add, ← Int.natCast_mul, Int.toNat_natCast, if_true, if_false, oI_le, oI_lt, oI_eq, oI_nat, oI_inR, gd_t, ld_00 hs, ld_02 hs, ld_04 hs, ld_06 hs, ld_p hs, ld_q hs, ld_s hs, c_pc hc, c_qc hc, c_sc hc, c_tn hc, c_gp hc, c_lm hc, c_p hc, c_s hc, c_q hc, c_q7 hc, c_q8 hc, c_q9 hc, c_q10 hc, c_qL hc]
    rw [if_neg (by omega)]
    show _ = some (oI (itr (fun a q => a + suH s 7 1 q) m (i + 1) (a + suH s 7 1 i)))
    by_cases hb : iI s 341 (50 + 10 * i + 8) = 1
    · rw [if_neg (by omega), show suH s 7 1 i = iI s 341 (50 + 10 * i + 7) from by unfold suH; rw [if_pos hb, if_pos (by omega)]; rfl]
      exact ih (i + 1) _ k (by omega) (by omega)
    · rw [if_pos (by omega), show suH s 7 1 i = 0 from if_neg hb, Int.add_zero]
      exact ih (i + 1) _ k (by omega) (by omega)
theorem X1_sumFeesL {fl : Nat} {s : Mem} (hs : RO s) (hc : CR s 0 (iI s 341)) (hv : VR (iI s 341)) : ∀ (m i : Nat) (a : Int) (k : Nat), iI s 341 1 = ((i + m : Nat) : Int) → m < k →
    B_X1_sumFees_4 fl s k 0 (oI a) (oI i) = some (oI (itr (fun a q => a + suH s 9 0 q) m i a)) := by
  have b := VRn hv
  unfold VN at b
  intro m
  induction m with
  | zero =>
    intro i a k h hk
    obtain ⟨k, rfl⟩ : ∃ k', k = k' + 1 := ⟨k - 1, by omega⟩
    unfold B_X1_sumFees_4
    simp (disch := omega) only [bd_some, nx_eq, xb_r, xb_l, xc_r, xc_l, oI_lit, oI_nI, oI_add, oI_sub, oI_mul, oI_neg, gI_oI, ldA_I, ldA_L, ldO_I, ldO_L, oB_z, oB_o, gd_oB, lgc0n, oI_litN, ← Int.natCast_add, ← Int.natCast_mul, Int.toNat_natCast, if_true, if_false, oI_le, oI_lt, oI_eq, oI_nat, oI_inR, gd_t, ld_00 hs, ld_02 hs, ld_04 hs, ld_06 hs, ld_p hs, ld_q hs, ld_s hs, c_pc hc, c_qc hc, c_sc hc, c_tn hc, c_gp hc, c_lm hc, c_p hc, c_s hc, c_q hc, c_q7 hc, c_q8 hc, c_q9 hc, c_q10 hc, c_qL hc]
    rw [if_pos (by omega)]
    rfl
  | succ m ih =>
    intro i a k h hk
    obtain ⟨k, rfl⟩ : ∃ k', k = k' + 1 := ⟨k - 1, by omega⟩
    have d := VRq hv (q := i) (by omega)
    unfold VQ at d
    unfold B_X1_sumFees_4
    simp (disch := omega) only [bd_some, nx_eq, xb_r, xb_l, xc_r, xc_l, oI_lit, oI_nI, oI_add, oI_sub, oI_mul, oI_neg, gI_oI, ldA_I, ldA_L, ldO_I, ldO_L, oB_z, oB_o, gd_oB, lgc0n, oI_litN, ← Int.natCast_add, ← Int.natCast_mul, Int.toNat_natCast, if_true, if_false, oI_le, oI_lt, oI_eq, oI_nat, oI_inR, gd_t, ld_00 hs, ld_02 hs, ld_04 hs, ld_06 hs, ld_p hs, ld_q hs, ld_s hs, c_pc hc, c_qc hc, c_sc hc, c_tn hc, c_gp hc, c_lm hc, c_p hc, c_s hc, c_q hc, c_q7 hc, c_q8 hc, c_q9 hc, c_q10 hc, c_qL hc]
    rw [if_neg (by omega)]
    show _ = some (oI (itr (fun a q => a + suH s 9 0 q) m (i + 1) (a + suH s 9 0 i)))
    have e : suH s 9 0 i = iI s 341 (50 + 10 * i + 9) := by
      unfold suH
      by_cases hb : iI s 341 (50 + 10 * i + 8) = 0
      · rw [if_pos hb, if_pos (by omega)]; rfl
      · rw [if_neg hb]; omega
    rw [e]
    exact ih (i + 1) _ k (by omega) (by omega)
theorem su_both {s : Mem} (hv : VR (iI s 341)) : ∀ (m i : Nat), ((i + m : Nat) : Int) ≤ iI s 341 1 → sm (suH s (-1) 1) m i + sm (suH s (-1) 0) m i = m
  | 0, _, _ => rfl
  | m + 1, i, h => by
    have d := VRq hv (q := i) (by omega)
    unfold VQ at d
    have := su_both hv m (i + 1) (by omega)
    have e1 : suH s (-1) 1 i = if iI s 341 (50 + 10 * i + 8) = 1 then 1 else 0 := by
      unfold suH
      rw [if_neg (by omega : ¬ (0 : Int) ≤ -1)]
    have e0 : suH s (-1) 0 i = if iI s 341 (50 + 10 * i + 8) = 0 then 1 else 0 := by
      unfold suH
      rw [if_neg (by omega : ¬ (0 : Int) ≤ -1)]
    rw [sm_s, sm_s, e1, e0]
    split <;> split <;> omega
theorem X1_allGapsL {fl : Nat} (hfl : 1000 ≤ fl) {s M : Mem} (hs : RO s) (hc : CR s 0 (iI s 341)) (hv : VR (iI s 341)) (hL : LT s M (iI M 342) (-1)) (hF : vF M) : ∀ (m i : Nat) (a : Int) (k : Nat), iI s 341 0 = ((i + m : Nat) : Int) → m < k →
    B_X1_countAllGaps_4 fl s k 0 (oI a) (oI i) = some (oI (itr (fun (a : Int) (p : Nat) => a + gN (moT M (iI M 342) p (-1)) (iI s 341 4)) m i a)) := by
  have b := VRn hv
  unfold VN at b
  have eg4 : iI s 0 7 = ((iI s 341 4).toNat : Nat) := by rw [c_gp hc]; omega
  have e4 : (((iI s 341 4).toNat : Nat) : Int) = iI s 341 4 := by omega
  intro m
  induction m with
  | zero =>
    intro i a k h hk
    obtain ⟨k, rfl⟩ : ∃ k', k = k' + 1 := ⟨k - 1, by omega⟩
    unfold B_X1_countAllGaps_4
    simp (disch := omega) only [bd_some, nx_eq, xb_r, xb_l, xc_r, xc_l, oI_lit, oI_nI, oI_add, oI_sub, oI_mul, oI_neg, gI_oI, ldA_I, ldA_L, ldO_I, ldO_L, oB_z, oB_o, gd_oB, lgc0n, oI_litN, ← Int.natCast_add, ← Int.natCast_mul, Int.toNat_natCast, if_true, if_false, oI_le, oI_lt, oI_eq, oI_nat, oI_inR, gd_t, ld_00 hs, ld_02 hs, ld_04 hs, ld_06 hs, ld_p hs, ld_q hs, ld_s hs, c_pc hc, c_qc hc, c_sc hc, c_tn hc, c_gp hc, c_lm hc, c_p hc, c_s hc, c_q hc, c_q7 hc, c_q8 hc, c_q9 hc, c_q10 hc, c_qL hc]
    rw [if_pos (by omega)]
    rfl
  | succ m ih =>
    intro i a k h hk
    obtain ⟨k, rfl⟩ : ∃ k', k = k' + 1 := ⟨k - 1, by omega⟩
    have q2 := X1_busyNights (p := i) (w := -1) hfl hs hc hv hL hF (by omega) (by omega) (by omega) (by omega)
    have q6 := X1_countGaps (fl := fl) (s := s) hfl (nz_moT hF (iI M 342) i (-1)) eg4 (by omega)
    rw [e4] at q6
    show _ = some (oI (itr (fun (a : Int) (p : Nat) => a + gN (moT M (iI M 342) p (-1)) (iI s 341 4)) m (i + 1) (a + gN (moT M (iI M 342) i (-1)) (iI s 341 4))))
    unfold B_X1_countAllGaps_4
    rw [if_neg (by rw [gI_oI, c_pc hc, oI_le (by omega) (by omega) (by omega) (by omega)]; omega), m1_o, q2, bd_some, q6, bd_some, oI_add, show oI (i : Int) + (1 : Int32) = oI ((i + 1 : Nat) : Int) from by rw [oI_lit, oI_add]; rfl]
    exact ih (i + 1) _ k (by omega) (by omega)
theorem X1_allBusyL {fl : Nat} (hfl : 1000 ≤ fl) {s M : Mem} (hs : RO s) (hc : CR s 0 (iI s 341)) (hv : VR (iI s 341)) (hL : LT s M (iI M 342) (-1)) (hF : vF M) : ∀ (m i : Nat) (a : Int) (k : Nat), iI s 341 0 = ((i + m : Nat) : Int) → m < k →
    B_X1_countAllBusyNights_4 fl s k 0 (oI a) (oI i) = some (oI (itr (fun (a : Int) (p : Nat) => a + (cn (moT M (iI M 342) p (-1)) 60 : Nat)) m i a)) := by
  have b := VRn hv
  unfold VN at b
  intro m
  induction m with
  | zero =>
    intro i a k h hk
    obtain ⟨k, rfl⟩ : ∃ k', k = k' + 1 := ⟨k - 1, by omega⟩
    unfold B_X1_countAllBusyNights_4
    simp (disch := omega) only [bd_some, nx_eq, xb_r, xb_l, xc_r, xc_l, oI_lit, oI_nI, oI_add, oI_sub, oI_mul, oI_neg, gI_oI, ldA_I, ldA_L, ldO_I, ldO_L, oB_z, oB_o, gd_oB, lgc0n, oI_litN, ← Int.natCast_add, ← Int.natCast_mul, Int.toNat_natCast, if_true, if_false, oI_le, oI_lt, oI_eq, oI_nat, oI_inR, gd_t, ld_00 hs, ld_02 hs, ld_04 hs, ld_06 hs, ld_p hs, ld_q hs, ld_s hs, c_pc hc, c_qc hc, c_sc hc, c_tn hc, c_gp hc, c_lm hc, c_p hc, c_s hc, c_q hc, c_q7 hc, c_q8 hc, c_q9 hc, c_q10 hc, c_qL hc]
    rw [if_pos (by omega)]
    rfl
  | succ m ih =>
    intro i a k h hk
    obtain ⟨k, rfl⟩ : ∃ k', k = k' + 1 := ⟨k - 1, by omega⟩
    have q2 := X1_busyNights (p := i) (w := -1) hfl hs hc hv hL hF (by omega) (by omega) (by omega) (by omega)
    show _ = some (oI (itr (fun (a : Int) (p : Nat) => a + (cn (moT M (iI M 342) p (-1)) 60 : Nat)) m (i + 1) (a + (cn (moT M (iI M 342) i (-1)) 60 : Nat))))
    unfold B_X1_countAllBusyNights_4
    rw [if_neg (by rw [gI_oI, c_pc hc, oI_le (by omega) (by omega) (by omega) (by omega)]; omega), m1_o, q2, bd_some, bc_cn, bd_some, nz_cn (nz_moT hF _ _ _), oI_add, show oI (i : Int) + (1 : Int32) = oI ((i + 1 : Nat) : Int) from by rw [oI_lit, oI_add]; rfl]
    exact ih (i + 1) _ k (by omega) (by omega)
theorem X8_busyAllL {fl : Nat} (hfl : 1000 ≤ fl) {s : Mem} (hs : RO s) : ∀ (m i : Nat) (a : Int) (k : Nat), iI s 341 0 = ((i + m : Nat) : Int) → i + m ≤ 6 → m < k →
    B_X8_busyNights_9 fl k 340 (oI a) (oI i) s = some (oI (itr (fun (a : Int) (p : Nat) => a + (cn (mo s p (-1)) 60 : Nat)) m i a), s) := by
  intro m
  induction m with
  | zero =>
    intro i a k h h2 hk
    obtain ⟨k, rfl⟩ : ∃ k', k = k' + 1 := ⟨k - 1, by omega⟩
    unfold B_X8_busyNights_9
    simp (disch := omega) only [bd_some, nx_eq, xb_r, xb_l, xc_r, xc_l, oI_lit, oI_nI, oI_add, oI_sub, oI_mul, oI_neg, gI_oI, ldA_I, ldA_L, ldO_I, ldO_L, oB_z, oB_o, gd_oB, lgc0n, oI_litN, ← Int.natCast_add, ← Int.natCast_mul, Int.toNat_natCast, if_true, if_false, oI_le, oI_lt, oI_eq, oI_nat, oI_inR, gd_t, ld_340_1 hs]
    rw [if_pos (by omega)]
    rfl
  | succ m ih =>
    intro i a k h h2 hk
    obtain ⟨k, rfl⟩ : ∃ k', k = k' + 1 := ⟨k - 1, by omega⟩
    show _ = some (oI (itr (fun (a : Int) (p : Nat) => a + (cn (mo s p (-1)) 60 : Nat)) m (i + 1) (a + (cn (mo s i (-1)) 60 : Nat))), s)
    unfold B_X8_busyNights_9
    simp (disch := omega) only [bd_some, nx_eq, xb_r, xb_l, xc_r, xc_l, oI_lit, oI_nI, oI_add, oI_sub, oI_mul, oI_neg, gI_oI, ldA_I, ldA_L, ldO_I, ldO_L, oB_z, oB_o, gd_oB, lgc0n, oI_litN, ← Int.natCast_add, ← Int.natCast_mul, Int.toNat_natCast, if_true, if_false, oI_le, oI_lt, oI_eq, oI_nat, oI_inR, gd_t, ld_340_1 hs, X8_maskOf hfl hs, X8_bits hfl]
    rw [if_neg (by omega)]
    exact ih (i + 1) _ k (by omega) (by omega) (by omega)
def bsT (M : Mem) (t : Nat → Int) (n : Nat) : Int := sm (fun p => (cn (moT M t p (-1)) 60 : Nat)) n 0
theorem bsT_bd (M : Mem) (t : Nat → Int) {n : Nat} (h : n ≤ 6) : 0 ≤ bsT M t n ∧ bsT M t n ≤ 360 := by
  have := sm_bd (h := fun p : Nat => ((cn (moT M t p (-1)) 60 : Nat) : Int)) (b := 60) n 0 (fun q _ _ => by have := cn_le (moT M t q (-1)) 60; omega)
  unfold bsT
  omega
theorem LM_account {fl : Nat} (hfl : 1000 ≤ fl) {s : Mem} (hI : Inv s) {a : Int} (a1 : -2147483648 ≤ a) (a2 : a < 2147483648) : Ans (F_L_account fl 320 (oI a) 350) (F_X8_account fl 340 (oI a)) s := by
  have hI' := hI
  obtain ⟨hs, -, ⟨hv, hc⟩, -⟩ := hI'
  have bn := VRn hv
  unfold VN at bn
  by_cases ha : 0 ≤ a ∧ a ≤ 7
  · obtain ⟨f, rfl⟩ : ∃ f : Nat, a = f := ⟨a.toNat, by omega⟩
    obtain ⟨M, hS, hF, hL, -, hN⟩ := ldPair hfl hI (w := -1) (by omega) (by omega)
    have hcb : F_X1_countBooked fl 0 s = some (oI (sm (suH s (-1) 1) (iI s 341 1).toNat 0)) := X1_countBookedL hs hc hv (iI s 341 1).toNat 0 0 fl (by omega) (by omega)
    have hsp : F_X1_sumPrices fl 0 s = some (oI (sm (suH s 7 1) (iI s 341 1).toNat 0)) := X1_sumPricesL hs hc hv (iI s 341 1).toNat 0 0 fl (by omega) (by omega)
    have hsf : F_X1_sumFees fl 0 s = some (oI (sm (suH s 9 0) (iI s 341 1).toNat 0)) := X1_sumFeesL hs hc hv (iI s 341 1).toNat 0 0 fl (by omega) (by omega)
    have hag : F_X1_countAllGaps fl 0 s = some (oI (sm (fun p => gN (moT M (iI M 342) p (-1)) (iI s 341 4)) (iI s 341 0).toNat 0)) := X1_allGapsL hfl hs hc hv hL hF (iI s 341 0).toNat 0 0 fl (by omega) (by omega)
    have hab : F_X1_countAllBusyNights fl 0 s = some (oI (bsT M (iI M 342) (iI s 341 0).toNat)) := X1_allBusyL hfl hs hc hv hL hF (iI s 341 0).toNat 0 0 fl (by omega) (by omega)
    have sb := su_both hv (iI s 341 1).toNat 0 (by omega)
    -- the reference, its memory loaded
    have ref : ∀ (v : Int), (∀ M1, RO M1 → AG M M1 → (∀ q, q ≤ 12 → iI M1 342 q = iI M 342 q) → (∀ k, iI M1 341 k = iI s 341 k) → (∃ M2, F_X8_busyNights fl 340 M1 = some (oI (bsT M (iI M 342) (iI s 341 0).toNat), M2) ∧ FI M1 M2 scC ∧ iI M2 340 0 = iI M1 340 0) → ∃ M2, (if (oI (f : Int)) = 0 then (bd (ldA M1 340 1 0) fun r7 => gd (inR (0 : Int32) r7.2) <| some ((gI M1 r7.1 (0 : Int32).toNatClampNeg), M1)) else if (oI (f : Int)) = 1 then (bd (F_X8_sum fl 340 (-1 : Int32) (1 : Int32) M1) fun q11 => some (q11, M1)) else if (oI (f : Int)) = 2 then (bd (F_X8_sum fl 340 (-1 : Int32) (0 : Int32) M1) fun q14 => some (q14, M1)) else if (oI (f : Int)) = 3 then (bd (F_X8_sum fl 340 (7 : Int32) (1 : Int32) M1) fun q17 => some (q17, M1)) else if (oI (f : Int)) = 4 then (bd (F_X8_sum fl 340 (9 : Int32) (0 : Int32) M1) fun q20 => some (q20, M1)) else if (oI (f : Int)) = 5 then (bd (F_X8_gapsOfAll fl 340 M1) fun q23 => some (q23.1, q23.2)) else if (oI (f : Int)) = 6 then (bd (F_X8_busyNights fl 340 M1) fun q26 => some (q26.1, q26.2)) else bd (ldA M1 340 1 0) fun r28 => gd (inR (2 : Int32) r28.2) <| some ((gI M1 r28.1 (2 : Int32).toNatClampNeg), M1)) = some (oI v, M2) ∧ FI M1 M2 scC ∧ iI M2 340 0 = iI M1 340 0) →
        ∀ s1, Inv s1 → FG s s1 scC → ∃ s2, F_X8_account fl 340 (oI f) s1 = some (oI v, s2) ∧ FI s1 s2 scC ∧ iI s2 340 0 = 0 := by
      intro v hw s1 hI1 F
      have hs1 := hI1.1
      obtain ⟨M1, n1, n2, n3, n4, n5, n6, n7, n8⟩ := hN (pI s1 340 0 0) hs1 (fun k => by rw [iI_pn (Or.inl (by omega)), sc41 F])
      obtain ⟨M3, m1, m2, m3, m4, m5, m6, m7, m8⟩ := hN M1 n5 n8
      obtain ⟨M2, g1, g2, g3⟩ := hw M1 n5 n3 n4 n8 ⟨M3, by
        unfold F_X8_busyNights
        rw [m1_o, m1, bd_some]
        have := X8_busyAllL (fl := fl) hfl m5 (iI s 341 0).toNat 0 0 fl (by rw [m8]; omega) (by omega) (by omega)
        refine this.trans (congrArg (fun z => some (oI z, M3)) ?_)
        unfold bsT
        refine sm_cg _ 0 fun p _ _ => ?_
        rw [mo_T, moT_cg m3 m4], FI_lo m2, m2.2 340 0 (by omega)⟩
      refine ⟨M2, ?_, FI_trans (FI_th s1 0) (FI_trans (FI_lo n2) g2), by rw [g3, n2.2 340 0 (by omega)]; exact th_z s1⟩
      unfold F_X8_account
      rw [n0_o, show (7 : Int32) = oI ((7 : Nat) : Int) from rfl, X8_in (by omega) (by omega) (by omega) (by omega) (by omega) (by omega), bd_some, ← n0_o, ifB_t (by omega)]
      unfold B_X8_account_16
      rw [nx_eq, if_pos (th_0 s1), m1_o, n1, bd_some]
      exact g1
    have hsu : ∀ M1 part bk, (∀ k, iI M1 341 k = iI s 341 k) → suH M1 part bk = suH s part bk := fun M1 part bk h => by
      funext q
      unfold suH
      rw [h, h]
    have : f = 0 ∨ f = 1 ∨ f = 2 ∨ f = 3 ∨ f = 4 ∨ f = 5 ∨ f = 6 ∨ f = 7 := by omega
    rcases this with rfl | rfl | rfl | rfl | rfl | rfl | rfl | rfl
    · refine Ans_w hI (L_account_v (x := oI (iI s 341 0)) ?_) (ref _ ?_)
      · unfold F_X7_account
        rw [if_pos (by decide), ld_320_1 hs, bd_some, gI_oI, c_pc hc]
      · intro M1 h1 h2 h3 h4 h5
        refine ⟨M1, ?_, FI_refl _ _, rfl⟩
        rw [if_pos (by decide), ld_340_1 h1, bd_some, gd_t (by decide), gI_oI, show (0 : Int32).toNatClampNeg = 0 from by decide, h4]
    · refine Ans_w hI (L_account_v (x := oI (sm (suH s (-1) 1) (iI s 341 1).toNat 0)) ?_) (ref _ ?_)
      · unfold F_X7_account
        rw [if_neg (by decide), if_pos (by decide), ld_320_1 hs, bd_some, hcb, bd_some]
      · intro M1 h1 h2 h3 h4 h5
        refine ⟨M1, ?_, FI_refl _ _, rfl⟩
        rw [if_neg (by decide), if_pos (by decide), m1_o, show (1 : Int32) = oI 1 from rfl, X8_sum hfl h1 (by omega) (by omega) (by omega) (by omega) (by rw [h4]; omega) (by rw [h4]; omega), bd_some, hsu M1 _ _ h4, h4]
    · refine Ans_w hI (L_account_v (x := oI (sm (suH s (-1) 0) (iI s 341 1).toNat 0)) ?_) (ref _ ?_)
      · unfold F_X7_account
        rw [if_neg (by decide), if_neg (by decide), if_pos (by decide), ld_320_1 hs, bd_some, bd_some, hcb, bd_some, gI_oI, c_qc hc, oI_sub, show iI s 341 1 - sm (suH s (-1) 1) (iI s 341 1).toNat 0 = sm (suH s (-1) 0) (iI s 341 1).toNat 0 by omega]
      · intro M1 h1 h2 h3 h4 h5
        refine ⟨M1, ?_, FI_refl _ _, rfl⟩
        rw [if_neg (by decide), if_neg (by decide), if_pos (by decide), m1_o, show (0 : Int32) = oI 0 from rfl, X8_sum hfl h1 (by omega) (by omega) (by omega) (by omega) (by rw [h4]; omega) (by rw [h4]; omega), bd_some, hsu M1 _ _ h4, h4]
    · refine Ans_w hI (L_account_v (x := oI (sm (suH s 7 1) (iI s 341 1).toNat 0)) ?_) (ref _ ?_)
      · unfold F_X7_account
        rw [if_neg (by decide), if_neg (by decide), if_neg (by decide), if_pos (by decide), ld_320_1 hs, bd_some, hsp, bd_some]
      · intro M1 h1 h2 h3 h4 h5
        refine ⟨M1, ?_, FI_refl _ _, rfl⟩
        rw [if_neg (by decide), if_neg (by decide), if_neg (by decide), if_pos (by decide), show (7 : Int32) = oI 7 from rfl, show (1 : Int32) = oI 1 from rfl, X8_sum hfl h1 (by omega) (by omega) (by omega) (by omega) (by rw [h4]; omega) (by rw [h4]; omega), bd_some, hsu M1 _ _ h4, h4]
    · refine Ans_w hI (L_account_v (x := oI (sm (suH s 9 0) (iI s 341 1).toNat 0)) ?_) (ref _ ?_)
      · unfold F_X7_account
        rw [if_neg (by decide), if_neg (by decide), if_neg (by decide), if_neg (by decide), if_pos (by decide), ld_320_1 hs, bd_some, hsf, bd_some]
      · intro M1 h1 h2 h3 h4 h5
        refine ⟨M1, ?_, FI_refl _ _, rfl⟩
        rw [if_neg (by decide), if_neg (by decide), if_neg (by decide), if_neg (by decide), if_pos (by decide), show (9 : Int32) = oI 9 from rfl, show (0 : Int32) = oI 0 from rfl, X8_sum hfl h1 (by omega) (by omega) (by omega) (by omega) (by rw [h4]; omega) (by rw [h4]; omega), bd_some, hsu M1 _ _ h4, h4]
    · refine Ans_w hI (L_account_v (x := oI (sm (fun p => gN (moT M (iI M 342) p (-1)) (iI s 341 4)) (iI s 341 0).toNat 0)) ?_) (ref _ ?_)
      · unfold F_X7_account
        rw [if_neg (by decide), if_neg (by decide), if_neg (by decide), if_neg (by decide), if_neg (by decide), if_pos (by decide), ld_320_1 hs, bd_some, hag, bd_some]
      · intro M1 h1 h2 h3 h4 h5
        refine ⟨M1, ?_, FI_refl _ _, rfl⟩
        rw [if_neg (by decide), if_neg (by decide), if_neg (by decide), if_neg (by decide), if_neg (by decide), if_pos (by decide), X8_gapsOfAll hfl h1 (by rw [h4]; omega) (by rw [h4]; omega) (by rw [h4]; omega) (by rw [h4]; omega), bd_some, gA_T, gaT_cg h2 h3]
        unfold gaT
        rw [hL.1, hL.1]
    · refine Ans_w hI (L_account_v (x := oI (bsT M (iI M 342) (iI s 341 0).toNat)) ?_) (ref _ ?_)
      · unfold F_X7_account
        rw [if_neg (by decide), if_neg (by decide), if_neg (by decide), if_neg (by decide), if_neg (by decide), if_neg (by decide), if_pos (by decide), ld_320_1 hs, bd_some, hab, bd_some]
      · intro M1 h1 h2 h3 h4 h5
        obtain ⟨M2, f1, f2, f3⟩ := h5
        refine ⟨M2, ?_, f2, f3⟩
        rw [if_neg (by decide), if_neg (by decide), if_neg (by decide), if_neg (by decide), if_neg (by decide), if_neg (by decide), if_pos (by decide), f1, bd_some]
    · refine Ans_w hI (L_account_v (x := oI (iI s 341 2)) ?_) (ref _ ?_)
      · unfold F_X7_account
        rw [if_neg (by decide), if_neg (by decide), if_neg (by decide), if_neg (by decide), if_neg (by decide), if_neg (by decide), if_neg (by decide), if_pos (by decide), ld_320_1 hs, bd_some, gI_oI, c_sc hc]
      · intro M1 h1 h2 h3 h4 h5
        refine ⟨M1, ?_, FI_refl _ _, rfl⟩
        rw [if_neg (by decide), if_neg (by decide), if_neg (by decide), if_neg (by decide), if_neg (by decide), if_neg (by decide), if_neg (by decide), ld_340_1 h1, bd_some, gd_t (by decide), gI_oI, show (2 : Int32).toNatClampNeg = 2 from by decide, h4]
  · have hk : ∀ x : Int32, (∃ k : Nat, k < 8 ∧ x = oI k) → ¬ oI a = x := fun x ⟨k, hk, hx⟩ h => by
      rw [hx, oI_eq a1 a2 (by omega) (by omega)] at h
      omega
    have q1 : F_X7_account fl 320 (oI a) s = some (.inl 1, s) := by
      unfold F_X7_account
      rw [if_neg (hk 0 ⟨0, by omega, rfl⟩), if_neg (hk 1 ⟨1, by omega, rfl⟩), if_neg (hk 2 ⟨2, by omega, rfl⟩), if_neg (hk 3 ⟨3, by omega, rfl⟩), if_neg (hk 4 ⟨4, by omega, rfl⟩), if_neg (hk 5 ⟨5, by omega, rfl⟩), if_neg (hk 6 ⟨6, by omega, rfl⟩), if_neg (hk 7 ⟨7, by omega, rfl⟩)]
    refine Ans_e hI (c := 1) (v := 0) (by omega) (by omega) (L_account_1 q1) ?_
    unfold F_X8_account
    rw [n0_o, show (7 : Int32) = oI ((7 : Nat) : Int) from rfl, X8_in (by omega) (by omega) (by omega) (by omega) (by omega) (by omega), bd_some, ← n0_o, ifB_f (by omega)]
    unfold B_X8_account_16
    rw [nx_eq, if_neg (th_n s (by decide))] <;> rfl
