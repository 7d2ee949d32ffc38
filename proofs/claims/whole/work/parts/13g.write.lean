-- a party cancelled
theorem half_p : ∀ p, p < 2001 → oI ((p : Nat) : Int) / (2 : Int32) = oI ((p / 2 : Nat) : Int) := by decide +kernel
def feeI (s : Mem) (x : Nat) : Int := if 6 < iI s 341 (50 + 10 * x + 4) - iI s 341 3 then 0 else if 2 < iI s 341 (50 + 10 * x + 4) - iI s 341 3 then iI s 341 (50 + 10 * x + 7) / 2 else iI s 341 (50 + 10 * x + 7)
theorem LM_cancel {fl : Nat} (hfl : 1000 ≤ fl) {s : Mem} (hI : Inv s) {a : Int} (a1 : -2147483648 ≤ a) (a2 : a < 2147483648) : Ans (F_L_cancel fl 320 (oI a) 350) (F_X8_cancel fl 340 (oI a)) s := by
  have hI' := hI
  obtain ⟨hs, -, ⟨hv, hc⟩, -⟩ := hI'
  have bn := VRn hv
  unfold VN at bn
  by_cases ha : 0 ≤ a ∧ a < iI s 341 1
  · obtain ⟨x, rfl⟩ : ∃ x : Nat, a = x := ⟨a.toNat, by omega⟩
    have dq := VRq hv (q := x) (by omega)
    unfold VQ at dq
    have st := X1_isStill (fl := fl) hc (9 + x)
    rw [c_q10 hc ha.2, c_q hc ha.2 (by decide)] at st
    by_cases hst : iI s 341 (50 + 10 * x + 8) ≠ 0 ∧ iI s 341 3 ≤ iI s 341 (50 + 10 * x + 4)
    · obtain ⟨cc, m, hh, m8, c8, hk⟩ := keepK hI
      obtain ⟨s1, k1, F1, k3, k4, k5⟩ := hk fl hfl
      have hs1 := FG_RO F1 hs
      have hp2 := half_p (iI s 341 (50 + 10 * x + 7)).toNat (by omega)
      rw [show (((iI s 341 (50 + 10 * x + 7)).toNat : Nat) : Int) = iI s 341 (50 + 10 * x + 7) by omega, show (((iI s 341 (50 + 10 * x + 7)).toNat / 2 : Nat) : Int) = iI s 341 (50 + 10 * x + 7) / 2 by omega] at hp2
      have fb : 0 ≤ feeI s x ∧ feeI s x ≤ 2000 := by
        unfold feeI
        split
        · omega
        · split <;> omega
      obtain ⟨n0, e0, G0, y0⟩ := stI s1 (9 + x) 10 (v := 0) (by omega) (by omega)
      obtain ⟨s2, e1, G1, y1⟩ := stI n0 (9 + x) 9 (v := feeI s x) (by omega) (by omega)
      have hn0 := FG_RO G0 hs1
      have w4 : iI n0 (9 + x) 4 = iI s 341 (50 + 10 * x + 4) := by rw [FG_I G0 (by omega), FG_I F1 (by unfold kpC cpC; omega)]; exact c_q hc ha.2 (by decide)
      have w8 : iI n0 (9 + x) 8 = iI s 341 (50 + 10 * x + 7) := by rw [FG_I G0 (by omega), FG_I F1 (by unfold kpC cpC; omega)]; exact c_q8 hc ha.2
      have wt : iI n0 0 8 = iI s 341 3 := by rw [FG_I G0 (by omega), FG_I F1 (by unfold kpC cpC; omega)]; exact c_tn hc
      have fe : F_X3_feeAt fl (9 + x) (gI n0 0 8) n0 = some (oI (feeI s x)) := by
        unfold F_X3_feeAt feeI
        rw [gI_oI, gI_oI, gI_oI, w4, w8, wt, oI_sub, hp2]
        by_cases q1 : 6 < iI s 341 (50 + 10 * x + 4) - iI s 341 3
        · rw [if_neg (by rw [oI_lit, oI_lt (by omega) (by omega) (by decide) (by decide)]; show ¬ _ < (7 : Int); omega), if_pos q1]; rfl
        · rw [if_pos (by rw [oI_lit, oI_lt (by omega) (by omega) (by decide) (by decide)]; show _ < (7 : Int); omega), if_neg q1]
          by_cases q2 : 2 < iI s 341 (50 + 10 * x + 4) - iI s 341 3
          · rw [if_neg (by rw [oI_lit, oI_lt (by omega) (by omega) (by decide) (by decide)]; show ¬ _ < (3 : Int); omega), if_pos q2]
          · rw [if_pos (by rw [oI_lit, oI_lt (by omega) (by omega) (by decide) (by decide)]; show _ < (3 : Int); omega), if_neg q2]
      have q1 : F_X7_cancel fl 320 (oI x) s = some (.inr (oI (feeI s x)), s2) := by
        unfold F_X7_cancel
        refine (hdQ hs hc (j := x) (by omega) (by omega) _).trans ?_
        rw [ld_320_1 hs, bd_some, st, bd_some, ifB_t hst, ld_320_4 hs, bd_some, bd_some, k1, bd_some, nx_eq, show (0 : Int32) = oI 0 from rfl, e0, ld_320_1 hn0, bd_some, fe, bd_some, nx_eq, e1, gI_oI, y1]
      have F2 : FG s1 s2 (fun k j => k ≤ 26) := FG_trans (FG_mono G0 (by omega)) (FG_mono G1 (by omega))
      obtain ⟨s5, p1, p2, p3, p4, p5, p6, p7, p8⟩ := midK hI hh F1 F2 (F4_th _ (Int32.toInt64 (oI (feeI s x)))) hfl
      obtain ⟨u0, f0, H0, x0⟩ := stF s5 341 (50 + 10 * x + 8) (v := 0) (by omega) (by omega)
      obtain ⟨s6, f1, H1, x1⟩ := stF u0 341 (50 + 10 * x + 9) (v := feeI s x) (by omega) (by omega)
      have hu0 := FI_RO H0 p3
      have FF : FI s5 s6 (fun k j => k = 341 ∧ (j = 50 + 10 * x + 8 ∨ j = 50 + 10 * x + 9)) := FI_trans (FI_mono H0 (by omega)) (FI_mono H1 (by omega))
      have hs3 : RO (pL s2 350 0 (Int32.toInt64 (oI (feeI s x)))) := RO_L (FG_RO F2 hs1) _ _ _
      have hx3 : ∀ k, iI (pL s2 350 0 (Int32.toInt64 (oI (feeI s x)))) 341 k = iI s 341 k := fun k => by rw [iI_pL, FG_I F2 (by omega), FG_I F1 (by unfold kpC cpC; omega)]
      refine Ans_k hI hh F1 k3 k4 k5 p6 (md_sc F2 (F4_th _ _)) p2 (FI_mono FF (by omega)) ?_ (by rw [p7]; exact th_z _) (by rw [p8]; exact gL_th _ _) (L_cancel_v q1) ?_
      · have cf : ∀ k j, k ≤ 26 → iI s6 k j = iI s2 k j := fun k j hk => by rw [FF.2 k j (by omega), (p5 k j hk).1]
        refine Cmp_cancel (s := s) ⟨hv, hc⟩ (x := x) (v := feeI s x) ha.2 (fun k hk hnn => ?_) (fun k j hk hnn => ?_) (fun k hk => ?_) (by rw [H1.2 _ _ (by omega)]; exact x0) x1 (by rw [cf _ _ (by omega), FG_I G1 (by omega)]; exact y0) (by rw [cf _ _ (by omega)]; exact y1) fb.1 fb.2
        · rw [FF.2 341 k (by omega)]; exact p4 k hk
        · rw [cf k j hk, FG_I G1 (by omega), FG_I G0 (by omega), FG_I F1 (by unfold kpC cpC; omega)]
        · rw [FI_L FF, (p5 k 6 hk).2, FG_L G1 (by omega), FG_L G0 (by omega), FG_L F1 (by unfold kpC cpC; omega)]
      · have c86 : B_X8_cancel_86 fl 340 (oI x) (oI (feeI s x)) s5 = some (oI (feeI s x), s6) := by
          unfold B_X8_cancel_86
          rw [show (8 : Int32) = oI ((8 : Nat) : Int) from rfl, show (9 : Int32) = oI ((9 : Nat) : Int) from rfl, show (0 : Int32) = oI 0 from rfl, X8_lays p3 (by omega) (by omega), bd_some, f0, X8_lays hu0 (by omega) (by omega), bd_some, f1]
        unfold F_X8_cancel
        rw [X8_isParty hs3 (by omega) (by omega) (by rw [hx3]; omega), bd_some, ifB_t (by rw [hx3]; omega), X8_isAhead hs3 (by omega), bd_some, ifB_t (by rw [hx3, hx3, hx3]; omega)]
        unfold B_X8_cancel_26
        rw [nx_eq, if_pos (th_0 _), p1, bd_some, show (4 : Int32) = oI ((4 : Nat) : Int) from rfl, X8_of p3 (by omega) (by omega), bd_some, ld_340_1 p3, bd_some, gd_t (by decide), show (7 : Int32) = oI ((7 : Nat) : Int) from rfl, X8_of p3 (by omega) (by omega), bd_some]
        have e3 : gI s5 (341, 1700).1 (3 : Int32).toNatClampNeg = oI (iI s 341 3) := by rw [gI_oI]; exact congrArg oI (p4 3 (by omega))
        rw [e3, p4 _ (by omega), p4 _ (by omega), oI_sub]
        unfold feeI at c86 ⊢
        by_cases z1 : 6 < iI s 341 (50 + 10 * x + 4) - iI s 341 3
        · rw [if_pos z1] at c86 ⊢
          rw [if_neg (by rw [oI_lit, oI_le (by omega) (by omega) (by decide) (by decide)]; show ¬ _ ≤ (6 : Int); omega)]
          exact c86
        · rw [if_neg z1] at c86 ⊢
          rw [if_pos (by rw [oI_lit, oI_le (by omega) (by omega) (by decide) (by decide)]; show _ ≤ (6 : Int); omega)]
          by_cases z2 : 2 < iI s 341 (50 + 10 * x + 4) - iI s 341 3
          · rw [if_pos z2] at c86 ⊢
            rw [if_neg (by rw [oI_lit, oI_le (by omega) (by omega) (by decide) (by decide)]; show ¬ _ ≤ (2 : Int); omega), hp2]
            exact c86
          · rw [if_neg z2] at c86 ⊢
            rw [if_pos (by rw [oI_lit, oI_le (by omega) (by omega) (by decide) (by decide)]; show _ ≤ (2 : Int); omega)]
            exact c86
    · have q1 : F_X7_cancel fl 320 (oI x) s = some (.inl 2, s) := by
        unfold F_X7_cancel
        refine (hdQ hs hc (j := x) (by omega) (by omega) _).trans ?_
        rw [ld_320_1 hs, bd_some, st, bd_some, ifB_f hst]
      refine Ans_e hI (c := 2) (v := 0) (by omega) (by omega) (L_cancel_2 q1) ?_
      unfold F_X8_cancel
      rw [X8_isParty hs (by omega) (by omega) (by omega), bd_some, ifB_t (by omega), X8_isAhead hs (by omega), bd_some, ifB_f (by omega)]
      unfold B_X8_cancel_26
      rw [nx_eq, if_neg (th_n s (by decide))] <;> rfl
  · have q1 : F_X7_cancel fl 320 (oI a) s = some (.inl 3, s) := by
      unfold F_X7_cancel
      rw [rqQ_n hs hc (by omega) (by omega) (by omega) ha]
      rfl
    refine Ans_e hI (c := 1) (v := 0) (by omega) (by omega) (L_cancel_1 q1) ?_
    unfold F_X8_cancel
    rw [X8_isParty hs (by omega) (by omega) (by omega), bd_some, ifB_f (by omega)]
    unfold B_X8_cancel_26
    rw [nx_eq, if_neg (th_n s (by decide))] <;> rfl
-- nights that go by
def arH (s : Mem) (a b : Int) (q : Nat) : Int := if iI s 341 (50 + 10 * q + 8) = 1 ∧ a ≤ iI s 341 (50 + 10 * q + 4) ∧ iI s 341 (50 + 10 * q + 4) < b then 1 else 0
theorem X1_arrL {fl : Nat} {s S : Mem} (hS : RO S) (hv : VR (iI s 341)) (hq : iI S 0 3 = iI s 341 1) (h10 : ∀ q : Nat, (q : Int) < iI s 341 1 → iI S (9 + q) 10 = iI s 341 (50 + 10 * q + 8)) (h4 : ∀ q : Nat, (q : Int) < iI s 341 1 → iI S (9 + q) 4 = iI s 341 (50 + 10 * q + 4)) {a b : Int} (a1 : 0 ≤ a) (a2 : a ≤ 60) (b1 : 0 ≤ b) (b2 : b ≤ 60) : ∀ (m i : Nat) (acc : Int) (k : Nat), iI s 341 1 = ((i + m : Nat) : Int) → m < k →
    B_X1_countArrivals_5 fl S k 0 (oI a) (oI b) (oI acc) (oI i) = some (oI (itr (fun acc q => acc + arH s a b q) m i acc)) := by
  have bn := VRn hv
  unfold VN at bn
  intro m
  induction m with
  | zero =>
    intro i acc k h hk
    obtain ⟨k, rfl⟩ : ∃ k', k = k' + 1 := ⟨k - 1, by omega⟩
    unfold B_X1_countArrivals_5
    simp (disch := omega) only [bd_some, nx_eq, xb_r, xb_l, xc_r, xc_l, oI_lit, oI_nI, oI_add, oI_sub, oI_mul, oI_neg, gI_oI, ldA_I, ldA_L, ldO_I, ldO_L, oB_z, oB_o, gd_oB, lgc0n, oI_litN, ← Int.natCast_add, ← Int.natCast_mul, Int.toNat_natCast, if_true, if_false, oI_le, oI_lt, oI_eq, oI_nat, oI_inR, gd_t, hq]
    rw [if_pos (by omega)]
    rfl
  | succ m ih =>
    intro i acc k h hk
    obtain ⟨k, rfl⟩ : ∃ k', k = k' + 1 := ⟨k - 1, by omega⟩
    have d := VRq hv (q := i) (by omega)
    unfold VQ at d
    have e10 := h10 i (by omega)
    have e4 := h4 i (by omega)
    unfold B_X1_countArrivals_5 B_X1_countArrivals_58
    simp (disch := omega) only [bd_some, nx_eq, xb_r, xb_l, xc_r, xc_l, oI_lit, oI_nI, oI_add, oI_sub, oI_mul, oI_neg, gI_oI, ldA_I, ldA_L, ldO_I, ldO_L, oB_z, oB_o, gd_oB, lgc0n, oI_litN, ← Int.natCast_add, ← Int.natCast_mul, Int.toNat_natCast, if_true, if_false, oI_le, oI_lt, oI_eq, oI_nat, oI_inR, gd_t, hq, ld_02 hS, ld_q hS, e10, e4]
    rw [if_neg (by omega)]
    show _ = some (oI (itr (fun acc q => acc + arH s a b q) m (i + 1) (acc + arH s a b i)))
    by_cases hx : iI s 341 (50 + 10 * i + 8) = 1 ∧ a ≤ iI s 341 (50 + 10 * i + 4) ∧ iI s 341 (50 + 10 * i + 4) < b
    · rw [if_neg (by omega), if_neg (by omega), if_neg (by omega), show arH s a b i = 1 from if_pos hx]
      exact ih (i + 1) _ k (by omega) (by omega)
    · rw [show arH s a b i = 0 from if_neg hx, Int.add_zero]
      repeat' split
      all_goals first
        | exact ih (i + 1) _ k (by omega) (by omega)
        | (exfalso; omega)
theorem X8_advL {fl : Nat} {s : Mem} (hs : RO s) {n : Int} (t0 : 0 ≤ iI s 341 3) (t1 : iI s 341 3 ≤ 60) (n0 : 0 ≤ n) (n1 : iI s 341 3 + n ≤ 60) : ∀ (m i : Nat) (acc : Int) (k : Nat), iI s 341 1 = ((i + m : Nat) : Int) → i + m ≤ 12 → m < k →
    B_X8_advance_43 fl k 340 (oI n) (oI acc) (oI i) s = some (oI (itr (fun acc q => acc + arH s (iI s 341 3) (iI s 341 3 + n) q) m i acc), pI s 341 3 (oI (iI s 341 3 + n))) := by
  intro m
  induction m with
  | zero =>
    intro i acc k h h2 hk
    obtain ⟨k, rfl⟩ : ∃ k', k = k' + 1 := ⟨k - 1, by omega⟩
    unfold B_X8_advance_43
    simp (disch := omega) only [bd_some, nx_eq, xb_r, xb_l, xc_r, xc_l, oI_lit, oI_nI, oI_add, oI_sub, oI_mul, oI_neg, gI_oI, ldA_I, ldA_L, ldO_I, ldO_L, oB_z, oB_o, gd_oB, lgc0n, oI_litN, ← Int.natCast_add, ← Int.natCast_mul, Int.toNat_natCast, if_true, if_false, oI_le, oI_lt, oI_eq, oI_nat, oI_inR, gd_t, ld_340_1 hs]
    rw [if_pos (by omega)]
    rfl
  | succ m ih =>
    intro i acc k h h2 hk
    obtain ⟨k, rfl⟩ : ∃ k', k = k' + 1 := ⟨k - 1, by omega⟩
    have c0 := iI_lo s 341 (50 + 10 * i + 8)
    have c1 := iI_hi s 341 (50 + 10 * i + 8)
    have c2 := iI_lo s 341 (50 + 10 * i + 4)
    have c3 := iI_hi s 341 (50 + 10 * i + 4)
    unfold B_X8_advance_43 B_X8_advance_97 B_X8_advance_98
    simp (disch := omega) only [bd_some, nx_eq, xb_r, xb_l, xc_r, xc_l, oI_lit, oI_nI, oI_add, oI_sub, oI_mul, oI_neg, gI_oI, ldA_I, ldA_L, ldO_I, ldO_L, oB_z, oB_o, gd_oB, lgc0n, oI_litN, ← Int.natCast_add, ← Int.natCast_mul, Int.toNat_natCast, if_true, if_false, oI_le, oI_lt, oI_eq, oI_nat, oI_inR, gd_t, ld_340_1 hs, X8_of hs, X8_in]
    rw [if_neg (by omega)]
    show _ = some (oI (itr (fun acc q => acc + arH s (iI s 341 3) (iI s 341 3 + n) q) m (i + 1) (acc + arH s (iI s 341 3) (iI s 341 3 + n) i)), pI s 341 3 (oI (iI s 341 3 + n)))
    by_cases hx : iI s 341 (50 + 10 * i + 8) = 1 ∧ iI s 341 3 ≤ iI s 341 (50 + 10 * i + 4) ∧ iI s 341 (50 + 10 * i + 4) < iI s 341 3 + n
    · rw [if_pos (by omega), if_neg (by omega), show arH s (iI s 341 3) (iI s 341 3 + n) i = 1 from if_pos hx]
      exact ih (i + 1) _ k (by omega) (by omega) (by omega)
    · rw [show arH s (iI s 341 3) (iI s 341 3 + n) i = 0 from if_neg hx]
      repeat' split
      all_goals first
        | exact ih (i + 1) _ k (by omega) (by omega) (by omega)
        | (exfalso; omega)
theorem LM_advance {fl : Nat} (hfl : 1000 ≤ fl) {s : Mem} (hI : Inv s) {a : Int} (a1 : -2147483648 ≤ a) (a2 : a < 2147483648) : Ans (F_L_advance fl 320 (oI a) 350) (F_X8_advance fl 340 (oI a)) s := by
  have hI' := hI
  obtain ⟨hs, -, ⟨hv, hc⟩, -⟩ := hI'
  have bn := VRn hv
  unfold VN at bn
  have w7 : F_X7_isWithin fl (oI a) 0 (60 - oI (iI s 341 3)) s = some (oB (0 ≤ a ∧ a ≤ 60 - iI s 341 3)) := by
    rw [show (60 : Int32) - oI (iI s 341 3) = oI (60 - iI s 341 3) from by rw [oI_lit, oI_sub]]
    exact X7_isWithin (v := a) (a := 0) (b := 60 - iI s 341 3) a1 a2 (by omega) (by omega) (by omega) (by omega)
  have w8 : ∀ s', F_X8_in fl (oI a) 0 (60 - oI (iI s 341 3)) s' = some (oB (0 ≤ a ∧ a ≤ 60 - iI s 341 3)) := fun s' => by
    rw [show (60 : Int32) - oI (iI s 341 3) = oI (60 - iI s 341 3) from by rw [oI_lit, oI_sub]]
    exact X8_in (v := a) (a := 0) (b := 60 - iI s 341 3) a1 a2 (by omega) (by omega) (by omega) (by omega)
  have h8 : ∀ s', RO s' → iI s' 341 3 = iI s 341 3 → F_X8_advance fl 340 (oI a) s' = if oB (0 ≤ a ∧ a ≤ 60 - iI s 341 3) = 0 then B_X8_advance_23 fl 340 (oI a) 340 1 s' else B_X8_advance_23 fl 340 (oI a) 340 0 s' := fun s' h1 h2 => by
    unfold F_X8_advance
    have e3 : gI s' 341 (3 : Int32).toNatClampNeg = oI (iI s 341 3) := by rw [gI_oI]; exact congrArg oI h2
    rw [ld_340_1 h1, bd_some, gd_t (by decide)]
    dsimp only
    rw [e3, w8, bd_some]
  by_cases ha : 0 ≤ a ∧ a ≤ 60 - iI s 341 3
  · obtain ⟨cc, m, hh, m8, c8, hk⟩ := keepK hI
    obtain ⟨s1, k1, F1, k3, k4, k5⟩ := hk fl hfl
    have hs1 := FG_RO F1 hs
    have t8 : iI s1 0 8 = iI s 341 3 := by rw [FG_I F1 (by unfold kpC cpC; omega)]; exact c_tn hc
    obtain ⟨s2, e0, G0, y0⟩ := stI s1 0 8 (v := iI s 341 3 + a) (by omega) (by omega)
    have hs2 := FG_RO G0 hs1
    have arr := X1_arrL (fl := fl) (s := s) (S := s2) hs2 hv (by rw [FG_I G0 (by omega), FG_I F1 (by unfold kpC cpC; omega)]; exact c_qc hc) (fun q hq => by rw [FG_I G0 (by omega), FG_I F1 (by unfold kpC cpC; omega)]; exact c_q10 hc hq) (fun q hq => by rw [FG_I G0 (by omega), FG_I F1 (by unfold kpC cpC; omega)]; exact c_q hc hq (by decide)) (a := iI s 341 3) (b := iI s 341 3 + a) (by omega) (by omega) (by omega) (by omega) (iI s 341 1).toNat 0 0 fl (by omega) (by omega)
    have q1 : F_X7_advance fl 320 (oI a) s = some (.inr (oI (sm (arH s (iI s 341 3) (iI s 341 3 + a)) (iI s 341 1).toNat 0)), s2) := by
      unfold F_X7_advance
      rw [ld_320_1 hs, bd_some, show gI s 0 8 = oI (iI s 341 3) from by rw [gI_oI, c_tn hc], w7, bd_some, ifB_t ha, ld_320_4 hs, bd_some, bd_some, k1, bd_some, ld_320_1 hs1, bd_some, bd_some, nx_eq, show gI s1 0 8 = oI (iI s 341 3) from by rw [gI_oI, t8], oI_add, e0, ld_320_1 hs2, bd_some, bd_some, show gI s2 0 8 = oI (iI s 341 3 + a) from by rw [gI_oI, y0]]
      unfold F_X1_countArrivals
      rw [show (0 : Int32) = oI 0 from rfl, show oI (0 : Int) = oI ((0 : Nat) : Int) from rfl]
      have arr' : B_X1_countArrivals_5 fl s2 fl 0 (oI (iI s 341 3)) (oI (iI s 341 3 + a)) (oI ((0 : Nat) : Int)) (oI ((0 : Nat) : Int)) = some (oI (sm (arH s (iI s 341 3) (iI s 341 3 + a)) (iI s 341 1).toNat 0)) := arr
      rw [arr', bd_some]
    have F2 : FG s1 s2 (fun k j => k ≤ 26) := FG_mono G0 (by omega)
    obtain ⟨s5, p1, p2, p3, p4, p5, p6, p7, p8⟩ := midK hI hh F1 F2 (F4_th _ (Int32.toInt64 (oI (sm (arH s (iI s 341 3) (iI s 341 3 + a)) (iI s 341 1).toNat 0)))) hfl
    have hs3 : RO (pL s2 350 0 (Int32.toInt64 (oI (sm (arH s (iI s 341 3) (iI s 341 3 + a)) (iI s 341 1).toNat 0)))) := RO_L hs2 _ _ _
    have F6 : FI s5 (pI s5 341 3 (oI (iI s 341 3 + a))) (fun k j => k = 341 ∧ j = 3) := FI_p _ _ _ _ ⟨rfl, rfl⟩
    refine Ans_k hI hh F1 k3 k4 k5 p6 (md_sc F2 (F4_th _ _)) p2 (FI_mono F6 (by omega)) ?_ (by rw [p7]; exact th_z _) (by rw [p8]; exact gL_th _ _) (L_advance_v q1) ?_
    · refine Cmp_advance (s := s) ⟨hv, hc⟩ (v := iI s 341 3 + a) (fun k hk hn => ?_) (fun k j hk hn => ?_) (fun k hk => ?_) (iI_pe (by omega) (by omega)) ?_ (by omega) (by omega)
      · rw [iI_pn (Or.inr hn)]; exact p4 k hk
      · rw [iI_pn (Or.inl (by omega)), (p5 k j hk).1, FG_I G0 (by omega), FG_I F1 (by unfold kpC cpC; omega)]
      · rw [gL_pI, (p5 k 6 hk).2, FG_L G0 (by omega), FG_L F1 (by unfold kpC cpC; omega)]
      · rw [iI_pn (Or.inl (by omega)), (p5 0 8 (by omega)).1, y0]
    · rw [h8 _ hs3 (by rw [iI_pL, FG_I G0 (by omega), FG_I F1 (by unfold kpC cpC; omega)]), ifB_t ha]
      unfold B_X8_advance_23
      have adv := X8_advL (fl := fl) (s := s5) p3 (n := a) (by rw [p4 3 (by omega)]; omega) (by rw [p4 3 (by omega)]; omega) ha.1 (by rw [p4 3 (by omega)]; omega) (iI s 341 1).toNat 0 0 fl (by rw [p4 1 (by omega)]; omega) (by omega) (by omega)
      rw [nx_eq, if_pos (th_0 _), p1, bd_some]
      refine adv.trans ?_
      rw [p4 3 (by omega)]
      refine congrArg (fun z => some (oI z, pI s5 341 3 (oI (iI s 341 3 + a)))) ?_
      refine itr_cg _ 0 0 fun acc q _ hq => ?_
      unfold arH
      rw [p4 _ (by omega), p4 _ (by omega)]
  · have q1 : F_X7_advance fl 320 (oI a) s = some (.inl 1, s) := by
      unfold F_X7_advance
      rw [ld_320_1 hs, bd_some, show gI s 0 8 = oI (iI s 341 3) from by rw [gI_oI, c_tn hc], w7, bd_some, ifB_f ha]
    refine Ans_e hI (c := 1) (v := 0) (by omega) (by omega) (L_advance_1 q1) ?_
    rw [h8 s hs rfl, ifB_f ha]
    unfold B_X8_advance_23
    rw [nx_eq, if_neg (th_n s (by decide))] <;> rfl
