theorem ldP {s : Mem} (hs : RO s) {x : Nat} (h : x < 6) : ldO s 1 (oI (x : Int)).toNatClampNeg 6 = some (2 + x) := by
  rw [oI_nat (by omega) (by omega), Int.toNat_natCast]
  exact ld_p hs h
theorem ldQ {s : Mem} (hs : RO s) {x : Nat} (h : x < 12) : ldO s 8 (oI (x : Int)).toNatClampNeg 5 = some (9 + x) := by
  rw [oI_nat (by omega) (by omega), Int.toNat_natCast]
  exact ld_q hs h
theorem ldSn {s : Mem} (hs : RO s) {x : Nat} (h : x < 4) : ldO s 21 (oI (x : Int)).toNatClampNeg 8 = some (22 + x) := by
  rw [oI_nat (by omega) (by omega), Int.toNat_natCast]
  exact ld_s hs h
theorem stF (s : Mem) (a j : Nat) {v : Int} (h : -2147483648 ≤ v) (h2 : v < 2147483648) : ∃ s', pI s a j (oI v) = s' ∧ FI s s' (fun k i => k = a ∧ i = j) ∧ iI s' a j = v := ⟨_, rfl, FI_p _ _ _ _ ⟨rfl, rfl⟩, iI_pe h h2⟩
theorem stepW {α : Type} {s : Mem} (hs : RO s) {i : Int32} {k : Nat} (hi : i = oI (k : Int)) (hk : k < 1700) (v : Int32) (f : Mem → Option α) : (bd (ldA s 340 1 0) fun r => gd (inR i r.2) <| nx (pI s r.1 i.toNatClampNeg v) f) = f (pI s 341 k v) := by
  subst hi
  rw [ld_340_1 hs, bd_some]
  dsimp only
  rw [gd_t ((oI_inR (by omega) (by omega)).mpr (by omega)), nx_eq, oI_nat (by omega) (by omega), Int.toNat_natCast]
theorem stepW0 {α : Type} {s : Mem} {i : Int32} {k : Nat} (hi : i = oI (k : Int)) (hk : k < 1700) (v : Int32) (f : Mem → Option α) : (bd (some (341, 1700)) fun r => gd (inR i r.2) <| nx (pI s r.1 i.toNatClampNeg v) f) = f (pI s 341 k v) := by
  subst hi
  rw [bd_some]
  dsimp only
  rw [gd_t ((oI_inR (by omega) (by omega)).mpr (by omega)), nx_eq, oI_nat (by omega) (by omega), Int.toNat_natCast]
theorem stepW2 {α : Type} {s : Mem} (hs : RO s) {i : Int32} {k : Nat} (hi : i = oI (k : Int)) (hk : k < 1700) (v : Int32 → Int32) (f : Mem → Option α) : (bd (ldA s 340 1 0) fun r => gd (inR i r.2) <| gd (inR i r.2) <| nx (pI s r.1 i.toNatClampNeg (v (gI s r.1 i.toNatClampNeg))) f) = f (pI s 341 k (v (gI s 341 k))) := by
  subst hi
  rw [ld_340_1 hs, bd_some]
  dsimp only
  rw [gd_t ((oI_inR (by omega) (by omega)).mpr (by omega)), gd_t ((oI_inR (by omega) (by omega)).mpr (by omega)), nx_eq, oI_nat (by omega) (by omega), Int.toNat_natCast]
theorem X8_setsR {fl : Nat} {s4 s5 : Mem} (hk : F_X8_keeps fl 340 s4 = some s5) (h5 : RO s5) {k : Nat} (hk2 : k < 1700) (v : Int32) : F_X8_sets fl 340 (oI k) v s4 = some (oI (iI s5 341 k), pI s5 341 k v) := by
  unfold F_X8_sets
  rw [hk, bd_some, ld_340_1 h5, bd_some]
  dsimp only
  rw [gd_t ((oI_inR (by omega) (by omega)).mpr (by omega)), bd_some]
  dsimp only
  rw [gd_t ((oI_inR (by omega) (by omega)).mpr (by omega)), nx_eq, oI_nat (by omega) (by omega), Int.toNat_natCast, gI_oI]
theorem LM_setRate {fl : Nat} (hfl : 1000 ≤ fl) {s : Mem} (hI : Inv s) {a b : Int} (a1 : -2147483648 ≤ a) (a2 : a < 2147483648) (b1 : -2147483648 ≤ b) (b2 : b < 2147483648) : Ans (F_L_setRate fl 320 (oI a) (oI b) 350) (F_X8_setRate fl 340 (oI a) (oI b)) s := by
  have hI' := hI
  obtain ⟨hs, -, ⟨hv, hc⟩, -⟩ := hI'
  have bn := VRn hv
  unfold VN at bn
  have w7 : F_X7_isWithin fl (oI b) 1 99 s = some (oB (1 ≤ b ∧ b ≤ 99)) := X7_isWithin (v := b) (a := 1) (b := 99) b1 b2 (by omega) (by omega) (by omega) (by omega)
  have w8 : ∀ s', F_X8_in fl (oI b) 1 99 s' = some (oB (1 ≤ b ∧ b ≤ 99)) := fun s' => X8_in (v := b) (a := 1) (b := 99) b1 b2 (by omega) (by omega) (by omega) (by omega)
  by_cases ha : 0 ≤ a ∧ a < iI s 341 0
  · by_cases hb : 1 ≤ b ∧ b ≤ 99
    · obtain ⟨x, rfl⟩ : ∃ x : Nat, a = x := ⟨a.toNat, by omega⟩
      obtain ⟨c, m, hh, m8, c8, hk⟩ := keepK hI
      obtain ⟨s1, k1, F1, k3, k4, k5⟩ := hk fl hfl
      have hs1 := FG_RO F1 hs
      have ol : iI s1 (2 + x) 4 = iI s 341 (8 + 5 * x + 4) := by rw [FG_I F1 (by unfold kpC cpC; omega)]; exact c_p hc (by omega) (by omega)
      have q1 : F_X7_setRate fl 320 (oI x) (oI b) s = some (.inr (oI (iI s 341 (8 + 5 * x + 4))), pI s1 (2 + x) 4 (oI b)) := by
        unfold F_X7_setRate
        rw [rqP_y hs hc (by omega) (by omega) (by omega), bd_some, xb_r, w7, bd_some, ifB_t (by omega), ld_320_4 hs, bd_some, ld_320_1 hs, bd_some, k1, bd_some, ld_320_1 hs1, bd_some, ld_00 hs1, bd_some]
        dsimp only
        rw [gd_t ((oI_inR (by omega) (by omega)).mpr (by omega)), ldP hs1 (by omega), bd_some, bd_some, ld_00 hs1, bd_some]
        dsimp only
        rw [gd_t ((oI_inR (by omega) (by omega)).mpr (by omega)), ldP hs1 (by omega), bd_some, nx_eq, gI_oI, ol]
      have F2 : FG s1 (pI s1 (2 + x) 4 (oI b)) (fun k j => k ≤ 26) := FG_p _ _ _ _ (by omega)
      obtain ⟨s5, p1, p2, p3, p4, p5, p6, p7, p8⟩ := midK hI hh F1 F2 (F4_th _ (Int32.toInt64 (oI (iI s 341 (8 + 5 * x + 4))))) hfl
      have F6 : FI s5 (pI s5 341 (8 + 5 * x + 4) (oI b)) (fun k j => k = 341 ∧ j < 170) := FI_p _ _ _ _ ⟨rfl, by omega⟩
      refine Ans_k hI hh F1 k3 k4 k5 p6 (md_sc F2 (F4_th _ _)) p2 F6 ?_ (by rw [p7]; exact th_z _) (by rw [p8]; exact gL_th _ _) (L_setRate_v q1) ?_
      · refine Cmp_setRate (s := s) ⟨hv, hc⟩ (x := x) (v := b) (by omega) (fun k hk hn => ?_) (fun k j hk hn => ?_) (fun k hk => ?_) (iI_pe b1 b2) ?_ hb.1 hb.2
        · rw [iI_pn (Or.inr hn)]; exact p4 k hk
        · rw [iI_pn (Or.inl (by omega)), (p5 k j hk).1, iI_pn (by omega), FG_I F1 (by unfold kpC cpC; omega)]
        · rw [gL_pI, (p5 k 6 hk).2, gL_pI, FG_L F1 (by unfold kpC cpC; omega)]
        · rw [iI_pn (Or.inl (by omega)), (p5 (2 + x) 4 (by omega)).1, iI_pe b1 b2]
      · have hs3 : RO (pL (pI s1 (2 + x) 4 (oI b)) 350 0 (Int32.toInt64 (oI (iI s 341 (8 + 5 * x + 4))))) := hs1
        have e0 : iI (pL (pI s1 (2 + x) 4 (oI b)) 350 0 (Int32.toInt64 (oI (iI s 341 (8 + 5 * x + 4))))) 341 0 = iI s 341 0 := by rw [iI_pL, iI_pn (Or.inl (by omega)), FG_I F1 (by unfold kpC cpC; omega)]
        unfold F_X8_setRate
        rw [X8_isPitch hs3 (by omega) (by omega) (by omega), bd_some, ifB_t (by omega), w8, bd_some, ifB_t (by omega)]
        unfold B_X8_setRate_28
        rw [nx_eq, if_pos (th_0 _), show (8 : Int32) + (5 : Int32) * oI (x : Int) + 4 = oI ((8 + 5 * x + 4 : Nat) : Int) from by rw [oI_lit, oI_lit, oI_lit, oI_mul, oI_add, oI_add]; rfl, X8_setsR p1 p3 (by omega), bd_some, p4 _ (by omega)]
    · have q1 : F_X7_setRate fl 320 (oI a) (oI b) s = some (.inl 1, s) := by
        unfold F_X7_setRate
        rw [rqP_y hs hc (by omega) (by omega) (by omega), bd_some, xb_r, w7, bd_some, ifB_f (by omega)]
      refine Ans_e hI (c := 2) (v := 0) (by omega) (by omega) (L_setRate_2 q1) ?_
      unfold F_X8_setRate
      rw [X8_isPitch hs (by omega) (by omega) (by omega), bd_some, ifB_t (by omega), w8, bd_some, ifB_f (by omega)]
      unfold B_X8_setRate_28
      rw [nx_eq, if_neg (th_n s (by decide))] <;> rfl
  · have q1 : F_X7_setRate fl 320 (oI a) (oI b) s = some (.inl 3, s) := by
      unfold F_X7_setRate
      rw [rqP_n hs hc (by omega) (by omega) ha]
      rfl
    refine Ans_e hI (c := 1) (v := 0) (by omega) (by omega) (L_setRate_1 q1) ?_
    unfold F_X8_setRate
    rw [X8_isPitch hs (by omega) (by omega) (by omega), bd_some, ifB_f (by omega)]
    unfold B_X8_setRate_28
    rw [nx_eq, if_neg (th_n s (by decide))] <;> rfl
theorem LM_setGap {fl : Nat} (hfl : 1000 ≤ fl) {s : Mem} (hI : Inv s) {b : Int} (b1 : -2147483648 ≤ b) (b2 : b < 2147483648) : Ans (F_L_setGap fl 320 (oI b) 350) (F_X8_setGap fl 340 (oI b)) s := by
  have hI' := hI
  obtain ⟨hs, -, ⟨hv, hc⟩, -⟩ := hI'
  have w7 : F_X7_isWithin fl (oI b) 0 5 s = some (oB (0 ≤ b ∧ b ≤ 5)) := X7_isWithin (v := b) (a := 0) (b := 5) b1 b2 (by omega) (by omega) (by omega) (by omega)
  have w8 : ∀ s', F_X8_in fl (oI b) 0 5 s' = some (oB (0 ≤ b ∧ b ≤ 5)) := fun s' => X8_in (v := b) (a := 0) (b := 5) b1 b2 (by omega) (by omega) (by omega) (by omega)
  by_cases hb : 0 ≤ b ∧ b ≤ 5
  · obtain ⟨c, m, hh, m8, c8, hk⟩ := keepK hI
    obtain ⟨s1, k1, F1, k3, k4, k5⟩ := hk fl hfl
    have hs1 := FG_RO F1 hs
    have ol : iI s1 0 7 = iI s 341 4 := by rw [FG_I F1 (by unfold kpC cpC; omega)]; exact c_gp hc
    have q1 : F_X7_setGap fl 320 (oI b) s = some (.inr (oI (iI s 341 4)), pI s1 0 7 (oI b)) := by
      unfold F_X7_setGap
      rw [w7, bd_some, ifB_t hb, ld_320_4 hs, bd_some, ld_320_1 hs, bd_some, k1, bd_some, ld_320_1 hs1, bd_some, bd_some, nx_eq, gI_oI, ol]
    have F2 : FG s1 (pI s1 0 7 (oI b)) (fun k j => k ≤ 26) := FG_p _ _ _ _ (by omega)
    obtain ⟨s5, p1, p2, p3, p4, p5, p6, p7, p8⟩ := midK hI hh F1 F2 (F4_th _ (Int32.toInt64 (oI (iI s 341 4)))) hfl
    have F6 : FI s5 (pI s5 341 4 (oI b)) (fun k j => k = 341 ∧ j < 170) := FI_p _ _ _ _ ⟨rfl, by omega⟩
    refine Ans_k hI hh F1 k3 k4 k5 p6 (md_sc F2 (F4_th _ _)) p2 F6 ?_ (by rw [p7]; exact th_z _) (by rw [p8]; exact gL_th _ _) (L_setGap_v q1) ?_
    · refine Cmp_setGap (s := s) ⟨hv, hc⟩ (v := b) (fun k hk hn => ?_) (fun k j hk hn => ?_) (fun k hk => ?_) (iI_pe b1 b2) ?_ hb.1 hb.2
      · rw [iI_pn (Or.inr hn)]; exact p4 k hk
      · rw [iI_pn (Or.inl (by omega)), (p5 k j hk).1, iI_pn (by omega), FG_I F1 (by unfold kpC cpC; omega)]
      · rw [gL_pI, (p5 k 6 hk).2, gL_pI, FG_L F1 (by unfold kpC cpC; omega)]
      · rw [iI_pn (Or.inl (by omega)), (p5 0 7 (by omega)).1, iI_pe b1 b2]
    · unfold F_X8_setGap
      rw [w8, bd_some, ifB_t hb]
      unfold B_X8_setGap_15
      rw [nx_eq, if_pos (th_0 _), show (4 : Int32) = oI ((4 : Nat) : Int) from rfl, X8_setsR p1 p3 (by omega), bd_some, p4 _ (by omega)]
  · have q1 : F_X7_setGap fl 320 (oI b) s = some (.inl 1, s) := by
      unfold F_X7_setGap
      rw [w7, bd_some, ifB_f hb]
    refine Ans_e hI (c := 1) (v := 0) (by omega) (by omega) (L_setGap_1 q1) ?_
    unfold F_X8_setGap
    rw [w8, bd_some, ifB_f hb]
    unfold B_X8_setGap_15
    rw [nx_eq, if_neg (th_n s (by decide))] <;> rfl
