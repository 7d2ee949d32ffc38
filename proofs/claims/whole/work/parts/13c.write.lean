theorem midK {s s1 s2 s4 : Mem} {c m : Nat} (hI : Inv s) (hh : Hist s c m) (F1 : FG s s1 (kpC m)) (F2 : FG s1 s2 (fun k j => k ≤ 26)) (F4 : FG s2 s4 scC) {fl : Nat} (hfl : 1000 ≤ fl) : ∃ s5, F_X8_keeps fl 340 s4 = some s5 ∧ KP s4 s5 c ∧ RO s5 ∧ (∀ k, k < 170 → iI s5 341 k = iI s 341 k) ∧ (∀ k j, k ≤ 26 → iI s5 k j = iI s2 k j ∧ gL s5 k j = gL s2 k j) ∧ FG s1 s4 mdC ∧ iI s5 340 0 = iI s4 340 0 ∧ gL s5 350 0 = gL s4 350 0 := by
  have m8 := hh.1.2.2.2.2
  have hs4 : RO s4 := FG_RO F4 (FG_RO F2 (FG_RO F1 hI.1))
  have e : iI s4 340 2 = c := by rw [FG_I F4 (by unfold scC; omega), FG_I F2 (by omega), FG_I F1 (by unfold kpC cpC; omega)]; exact hh.1.2.2.1
  obtain ⟨s5, g1, g2⟩ := X8_keeps (fl := fl) hfl hs4 e hh.1.2.2.2.1
  have F5 : FG s4 s5 (fun k j => k = 340 ∧ j = 2 ∨ k = 341 ∧ 170 ≤ j ∧ j < 1530) := FG_FI g2.1
  refine ⟨s5, g1, g2, FI_RO g2.1 hs4, fun k hk => ?_, fun k j hk => ⟨?_, ?_⟩, FG_trans (FG_mono F2 (by unfold mdC; omega)) (FG_mono F4 (fun k j h => Or.inr (Or.inl h))), ?_, ?_⟩
  · rw [FG_I F5 (by omega), FG_I F4 (by unfold scC; omega), FG_I F2 (by omega), FG_I F1 (by unfold kpC cpC; omega)]
  · rw [FG_I F5 (by omega), FG_I F4 (by unfold scC; omega)]
  · rw [FG_L F5 (by omega), FG_L F4 (by unfold scC; omega)]
  · rw [FG_I F5 (by omega)]
  · rw [FG_L F5 (by omega)]
theorem Ans_k {fL f8 : Mem → Option (Int32 × Mem)} {s s1 s2 s4 s5 s6 : Mem} {c m : Nat} {W : Int32} (hI : Inv s) (hh : Hist s c m) (F1 : FG s s1 (kpC m)) (k3 : iI s1 334 1 = ((m + 1) % 8 : Nat)) (k4 : iI s1 334 2 = ((if c = 8 then 8 else c + 1 : Nat) : Int)) (k5 : CR s1 (64 + 32 * m) (iI s 341))
    (F4 : FG s1 s4 mdC) (F4' : FG s1 s4 (fun k j => k ≤ 26 ∨ scC k j)) (hk : KP s4 s5 c) (F6 : FI s5 s6 (fun k j => k = 341 ∧ j < 170)) (hC : Cmp s6) (th : iI s5 340 0 = 0) (hv : gL s5 350 0 = Int32.toInt64 W)
    (h1 : fL s = some (oI (0 : Nat), pL s2 350 0 (Int32.toInt64 W))) (h2 : f8 (pL s2 350 0 (Int32.toInt64 W)) = some (W, s6)) : Ans fL f8 s := by
  refine ⟨_, _, _, s6, h1, h2, ?_, fun _ => ?_, Inv_keep hI hh F1 k3 k4 k5 F4 hk (FG_mono (FG_FI F6) (by unfold r0C; omega)) hC (Lat_keep hI.2.2.2.2.2.2.1 hh.1.2.2.2.2 F1 F4' (by unfold scC; omega) hk (FG_FI F6) (by omega))⟩
  · rw [gI_oI, F6.2 340 0 (by omega), th]; rfl
  · rw [FI_L F6, hv]
theorem md_sc {s1 s2 s4 : Mem} (F2 : FG s1 s2 (fun k j => k ≤ 26)) (F4 : FG s2 s4 scC) : FG s1 s4 (fun k j => k ≤ 26 ∨ scC k j) := FG_trans (FG_mono F2 (fun k j h => Or.inl h)) (FG_mono F4 (fun k j h => Or.inr h))
theorem F4_th (s2 : Mem) (v : Int64) : FG s2 (pI (pL s2 350 0 v) 340 0 0) scC := FG_trans (FG_pL _ _ _ _ (by unfold scC; omega)) (FG_p _ _ _ _ (by unfold scC; omega))
theorem gL_th (s2 : Mem) (v : Int64) : gL (pI (pL s2 350 0 v) 340 0 0) 350 0 = v := by
  rw [gL_pI, gL_p, if_pos ⟨rfl, rfl⟩]
theorem LM_setLimit {fl : Nat} (hfl : 1000 ≤ fl) {s : Mem} (hI : Inv s) {a b : Int} (a1 : -2147483648 ≤ a) (a2 : a < 2147483648) (b1 : -2147483648 ≤ b) (b2 : b < 2147483648) : Ans (F_L_setLimit fl 320 (oI a) (oI b) 350) (F_X8_setLimit fl 340 (oI a) (oI b)) s := by
  have hI' := hI
  obtain ⟨hs, -, ⟨hv, hc⟩, -⟩ := hI'
  have w7 : F_X7_isWithin fl (oI b) 0 40 s = some (oB (0 ≤ b ∧ b ≤ 40)) := X7_isWithin (v := b) (a := 0) (b := 40) b1 b2 (by omega) (by omega) (by omega) (by omega)
  have w8 : ∀ s', F_X8_in fl (oI b) 0 40 s' = some (oB (0 ≤ b ∧ b ≤ 40)) := fun s' => X8_in (v := b) (a := 0) (b := 40) b1 b2 (by omega) (by omega) (by omega) (by omega)
  by_cases ha : 0 ≤ a ∧ a < 3
  · by_cases hb : 0 ≤ b ∧ b ≤ 40
    · obtain ⟨x, rfl⟩ : ∃ x : Nat, a = x := ⟨a.toNat, by omega⟩
      obtain ⟨c, m, hh, m8, c8, hk⟩ := keepK hI
      obtain ⟨s1, k1, F1, k3, k4, k5⟩ := hk fl hfl
      have hs1 := FG_RO F1 hs
      have ol : iI s1 26 x = iI s 341 (5 + x) := by rw [FG_I F1 (by unfold kpC cpC; omega)]; exact c_lm hc (by omega)
      have q1 : F_X7_setLimit fl 320 (oI x) (oI b) s = some (.inr (oI (iI s 341 (5 + x))), pI s1 26 x (oI b)) := by
        unfold F_X7_setLimit
        rw [rqC_y (by omega) (by omega) (by omega), bd_some, xb_r, w7, bd_some, ifB_t (by omega), ld_320_4 hs, bd_some, ld_320_1 hs, bd_some, k1, bd_some, ld_320_1 hs1, bd_some, ld_06 hs1, bd_some]
        dsimp only
        rw [gd_t ((oI_inR (by omega) (by omega)).mpr (by omega)), bd_some, ld_06 hs1, bd_some]
        dsimp only
        rw [gd_t ((oI_inR (by omega) (by omega)).mpr (by omega)), nx_eq, oI_nat (by omega) (by omega), Int.toNat_natCast, gI_oI, ol]
      have F2 : FG s1 (pI s1 26 x (oI b)) (fun k j => k ≤ 26) := FG_p _ _ _ _ (by decide)
      obtain ⟨s5, p1, p2, p3, p4, p5, p6, p7, p8⟩ := midK hI hh F1 F2 (F4_th _ (Int32.toInt64 (oI (iI s 341 (5 + x))))) hfl
      have F6 : FI s5 (pI s5 341 (5 + x) (oI b)) (fun k j => k = 341 ∧ j < 170) := FI_p _ _ _ _ ⟨rfl, by omega⟩
      refine Ans_k hI hh F1 k3 k4 k5 p6 (md_sc F2 (F4_th _ _)) p2 F6 ?_ (by rw [p7]; exact th_z _) (by rw [p8]; exact gL_th _ _) (L_setLimit_v q1) ?_
      · refine Cmp_setLimit (s := s) ⟨hv, hc⟩ (x := x) (v := b) (by omega) (fun k hk hn => ?_) (fun k j hk hn => ?_) (fun k hk => ?_) (iI_pe b1 b2) ?_ hb.1 hb.2
        · rw [iI_pn (Or.inr hn)]; exact p4 k hk
        · rw [iI_pn (Or.inl (by omega)), (p5 k j hk).1, iI_pn (by omega), FG_I F1 (by unfold kpC cpC; omega)]
        · rw [gL_pI, (p5 k 6 hk).2, gL_pI, FG_L F1 (by unfold kpC cpC; omega)]
        · rw [iI_pn (Or.inl (by omega)), (p5 26 x (by omega)).1, iI_pe b1 b2]
      · have hs3 : RO (pL (pI s1 26 x (oI b)) 350 0 (Int32.toInt64 (oI (iI s 341 (5 + x))))) := hs1
        unfold F_X8_setLimit
        rw [X8_isCircuit (by omega) (by omega), bd_some, ifB_t (by omega), w8, bd_some, ifB_t (by omega)]
        unfold B_X8_setLimit_27 F_X8_sets
        rw [nx_eq, if_pos (th_0 _), p1, bd_some, ld_340_1 p3, bd_some, show (5 : Int32) + oI (x : Int) = oI ((5 + x : Nat) : Int) from by rw [oI_lit, oI_add]; rfl]
        dsimp only
        rw [gd_t ((oI_inR (by omega) (by omega)).mpr (by omega)), bd_some]
        dsimp only
        rw [gd_t ((oI_inR (by omega) (by omega)).mpr (by omega)), nx_eq, bd_some, oI_nat (by omega) (by omega), Int.toNat_natCast, gI_oI, p4 _ (by omega)]
    · have q1 : F_X7_setLimit fl 320 (oI a) (oI b) s = some (.inl 1, s) := by
        unfold F_X7_setLimit
        rw [rqC_y (by omega) (by omega) (by omega), bd_some, xb_r, w7, bd_some, ifB_f (by omega)]
      refine Ans_e hI (c := 2) (v := 0) (by omega) (by omega) (L_setLimit_2 q1) ?_
      unfold F_X8_setLimit
      rw [X8_isCircuit (by omega) (by omega), bd_some, ifB_t (by omega), w8, bd_some, ifB_f (by omega)]
      unfold B_X8_setLimit_27
      rw [nx_eq, if_neg (th_n s (by decide))] <;> rfl
  · have q1 : F_X7_setLimit fl 320 (oI a) (oI b) s = some (.inl 3, s) := by
      unfold F_X7_setLimit
      rw [rqC_n (by omega) (by omega) ha]
      rfl
    refine Ans_e hI (c := 1) (v := 0) (by omega) (by omega) (L_setLimit_1 q1) ?_
    unfold F_X8_setLimit
    rw [X8_isCircuit (by omega) (by omega), bd_some, ifB_f ha]
    unfold B_X8_setLimit_27
    rw [nx_eq, if_neg (th_n s (by decide))] <;> rfl
