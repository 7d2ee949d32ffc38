theorem X8_lays {fl : Nat} {s : Mem} (hs : RO s) {q f : Nat} (hq : q ≤ 12) (hf : f < 10) (v : Int32) : F_X8_lays fl 340 (oI q) (oI f) v s = some (pI s 341 (50 + 10 * q + f) v) := by
  unfold F_X8_lays
  simp (disch := omega) only [bd_some, nx_eq, xb_r, xb_l, xc_r, xc_l, oI_lit, oI_nI, oI_add, oI_sub, oI_mul, oI_neg, gI_oI, ldA_I, ldA_L, ldO_I, ldO_L, oB_z, oB_o, gd_oB, lgc0n, oI_litN, ← Int.natCast_add, ← Int.natCast_mul, Int.toNat_natCast, if_true, if_false, oI_le, oI_lt, oI_eq, oI_nat, oI_inR, gd_t, ld_340_1 hs]
def cm3 (s : Mem) (p f n : Int) : Mem := pI (pI (pI s 343 12 (oI f)) 344 12 (oI n)) 345 12 (oI p)
theorem X8_comes {fl : Nat} {s : Mem} (hs : RO s) (p f n : Int) : F_X8_comes fl 340 (oI p) (oI f) (oI n) s = some (cm3 s p f n) := by
  unfold F_X8_comes cm3
  simp (disch := omega) only [bd_some, nx_eq, xb_r, xb_l, xc_r, xc_l, oI_lit, oI_nI, oI_add, oI_sub, oI_mul, oI_neg, gI_oI, ldA_I, ldA_L, ldO_I, ldO_L, oB_z, oB_o, gd_oB, lgc0n, oI_litN, ← Int.natCast_add, ← Int.natCast_mul, Int.toNat_natCast, if_true, if_false, oI_le, oI_lt, oI_eq, oI_nat, oI_inR, gd_t, ld_340_5 hs, ld_340_6 hs, ld_340_7 hs]
theorem cm3_FI (s : Mem) (p f n : Int) : FI s (cm3 s p f n) (fun k j => 343 ≤ k ∧ k ≤ 345 ∧ j = 12) := by
  unfold cm3
  refine FI_trans (FI_trans (FI_p _ _ _ _ ?_) (FI_p _ _ _ _ ?_)) (FI_p _ _ _ _ ?_) <;> omega
theorem cm3_v {s : Mem} {p f n : Int} (h1 : -2147483648 ≤ p) (h2 : p < 2147483648) (h3 : -2147483648 ≤ f) (h4 : f < 2147483648) (h5 : -2147483648 ≤ n) (h6 : n < 2147483648) : iI (cm3 s p f n) 343 12 = f ∧ iI (cm3 s p f n) 344 12 = n ∧ iI (cm3 s p f n) 345 12 = p := by
  unfold cm3
  refine ⟨?_, ?_, ?_⟩
  · rw [iI_pn (Or.inl (by omega)), iI_pn (Or.inl (by omega)), iI_pe h3 h4]
  · rw [iI_pn (Or.inl (by omega)), iI_pe h5 h6]
  · rw [iI_pe h1 h2]
theorem X8_comesAs {fl : Nat} (hfl : 1000 ≤ fl) {s : Mem} (hs : RO s) {q : Nat} (hq : q < 12) (hq0 : 0 ≤ iI s 341 1) (hq1 : iI s 341 1 ≤ 12) :
    ∃ s', F_X8_comesAs fl 340 (oI q) s = some s' ∧ FI s s' (fun k j => 342 ≤ k ∧ k ≤ 345 ∧ j ≤ 12) ∧ (∀ r, r < 12 → LD s s' q r) ∧ iI s' 342 12 = -1 ∧ iI s' 343 12 = iI s 341 (50 + 10 * q + 4) ∧ iI s' 344 12 = iI s 341 (50 + 10 * q + 5) ∧ iI s' 345 12 = iI s 341 (50 + 10 * q + 3) := by
  obtain ⟨s1, g1, g2, g3⟩ := X8_loads (fl := fl) hfl hs (w := q) (by omega) (by omega) hq0 hq1
  have hs1 := FI_RO g2 hs
  have hv := cm3_v (s := s1) (iI_lo s 341 (50 + 10 * q + 3)) (iI_hi s 341 (50 + 10 * q + 3)) (iI_lo s 341 (50 + 10 * q + 4)) (iI_hi s 341 (50 + 10 * q + 4)) (iI_lo s 341 (50 + 10 * q + 5)) (iI_hi s 341 (50 + 10 * q + 5))
  have hF := cm3_FI s1 (iI s 341 (50 + 10 * q + 3)) (iI s 341 (50 + 10 * q + 4)) (iI s 341 (50 + 10 * q + 5))
  refine ⟨cm3 s1 (iI s 341 (50 + 10 * q + 3)) (iI s 341 (50 + 10 * q + 4)) (iI s 341 (50 + 10 * q + 5)), ?_, FI_trans g2 (FI_mono hF (by intro k j h; omega)), ?_, ?_, hv.1, hv.2.1, hv.2.2⟩
  · unfold F_X8_comesAs
    rw [g1]
    simp (disch := omega) only [bd_some, nx_eq, xb_r, xb_l, xc_r, xc_l, oI_lit, oI_nI, oI_add, oI_sub, oI_mul, oI_neg, gI_oI, ldA_I, ldA_L, ldO_I, ldO_L, oB_z, oB_o, gd_oB, lgc0n, oI_litN, ← Int.natCast_add, ← Int.natCast_mul, Int.toNat_natCast, if_true, if_false, oI_le, oI_lt, oI_eq, oI_nat, oI_inR, gd_t, X8_of hs1, X8_comes hs1]
    rw [g2.2 341 _ (by omega), g2.2 341 _ (by omega), g2.2 341 _ (by omega)]
  · intro r hr
    have := g3 r (by omega)
    unfold LD at this ⊢
    rw [hF.2 342 r (by omega), hF.2 343 r (by omega), hF.2 344 r (by omega), hF.2 345 r (by omega)]
    exact this
  · have := (g3 12 (by omega)).1
    rw [hF.2 342 12 (by omega), this]
    exact if_neg (by omega)
theorem X8_isAhead {fl : Nat} {s : Mem} (hs : RO s) {q : Nat} (hq : q ≤ 12) : F_X8_isAhead fl 340 (oI q) s = some (oB (iI s 341 (50 + 10 * q + 8) = 1 ∧ iI s 341 3 ≤ iI s 341 (50 + 10 * q + 4))) := by
  have c0 := iI_lo s 341 (50 + 10 * q + 8)
  have c1 := iI_hi s 341 (50 + 10 * q + 8)
  have c2 := iI_lo s 341 (50 + 10 * q + 4)
  have c3 := iI_hi s 341 (50 + 10 * q + 4)
  have c4 := iI_lo s 341 3
  have c5 := iI_hi s 341 3
  unfold F_X8_isAhead
  simp (disch := omega) only [bd_some, nx_eq, xb_r, xb_l, xc_r, xc_l, oI_lit, oI_nI, oI_add, oI_sub, oI_mul, oI_neg, gI_oI, ldA_I, ldA_L, ldO_I, ldO_L, oB_z, oB_o, gd_oB, lgc0n, oI_litN, ← Int.natCast_add, ← Int.natCast_mul, Int.toNat_natCast, if_true, if_false, oI_le, oI_lt, oI_eq, oI_nat, oI_inR, gd_t, ld_340_1 hs, X8_of hs]
  repeat' split
  all_goals first
    | (rw [oB_f (by omega)]; rfl)
    | (rw [oB_t (by omega)]; rfl)
theorem X8_canMove {fl : Nat} {s : Mem} (hs : RO s) {q : Nat} (hq : q ≤ 12) : F_X8_canMove fl 340 (oI q) s = some (oB (0 ≤ iI s 342 q ∧ iI s 341 3 ≤ iI s 341 (50 + 10 * q + 4))) := by
  have c0 := iI_lo s 342 q
  have c1 := iI_hi s 342 q
  have c2 := iI_lo s 341 (50 + 10 * q + 4)
  have c3 := iI_hi s 341 (50 + 10 * q + 4)
  have c4 := iI_lo s 341 3
  have c5 := iI_hi s 341 3
  unfold F_X8_canMove
  simp (disch := omega) only [bd_some, nx_eq, xb_r, xb_l, xc_r, xc_l, oI_lit, oI_nI, oI_add, oI_sub, oI_mul, oI_neg, gI_oI, ldA_I, ldA_L, ldO_I, ldO_L, oB_z, oB_o, gd_oB, lgc0n, oI_litN, ← Int.natCast_add, ← Int.natCast_mul, Int.toNat_natCast, if_true, if_false, oI_le, oI_lt, oI_eq, oI_nat, oI_inR, gd_t, ld_340_1 hs, ld_340_4 hs, X8_of hs]
  repeat' split
  all_goals first
    | (rw [oB_f (by omega)]; rfl)
    | (rw [oB_t (by omega)]; rfl)
