def SL (S M : Mem) (W D : Nat → Nat) (c : Nat) : Prop := iI S 321 2 = c ∧ c ≤ 2 ∧ W 0 = 12 ∧ inj W c ∧ (∀ k, k ≤ c → (D k : Int) < iI S 341 0 ∧ iI S 326 k = D k ∧ iI S 328 k = ciM M (D k)) ∧ ∀ k, 1 ≤ k → k ≤ c → W k < 12 ∧ 0 ≤ iI M 342 (W k) ∧ gR S 323 k = some (9 + W k) ∧ iI S 325 k = iI M 342 (W k) ∧ iI S 327 k = ciM M (iI M 342 (W k))
def wc (W : Nat → Nat) (k : Nat) : Nat := if k = 0 then 322 else 9 + W k
theorem SL_12 {S M : Mem} {W D : Nat → Nat} {c : Nat} (h : SL S M W D c) {k : Nat} (hk : k ≤ c) : W k ≤ 12 := by
  by_cases h0 : k = 0
  · subst h0; rw [h.2.2.1]; omega
  · have := (h.2.2.2.2.2 k (by omega) hk).1
    omega
theorem SL_w {S M : Mem} {W D : Nat → Nat} {c : Nat} (hB : PB S M) (h : SL S M W D c) {k : Nat} (hk : k ≤ c) : ldO S 323 k 5 = some (wc W k) ∧ gL S (wc W k) 6 = mI (iI M 343 (W k)) (iI M 344 (W k)) ∧ iI S (wc W k) 3 = iI M 345 (W k) ∧ iI S (wc W k) 4 = iI M 343 (W k) ∧ iI S (wc W k) 5 = iI M 344 (W k) := by
  obtain ⟨hs, hcs, hv, hc, hL, hF, m3, m4, m5, m6, m7⟩ := hB
  by_cases h0 : k = 0
  · subst h0
    have e : wc W 0 = 322 := rfl
    rw [e, h.2.2.1, m6, m3, m4, m5]
    exact ⟨ldW_n hcs.1, rfl, rfl, rfl, rfl⟩
  · obtain ⟨a1, a2, a3, -⟩ := h.2.2.2.2.2 k (by omega) hk
    have e : wc W k = 9 + W k := if_neg h0
    have hld := PB_ld (S := S) (M := M) ⟨hs, hcs, hv, hc, hL, hF, m3, m4, m5, m6, m7⟩ a1 a2
    have eq := (hL.2.2 (W k) a1).1 hld
    rw [e, c_qL hc hld.1, c_q hc hld.1 (by decide), c_q hc hld.1 (by decide), c_q hc hld.1 (by decide), eq.2.1, eq.2.2.1, eq.2.2.2]
    exact ⟨ldW_q a1 a3, rfl, rfl, rfl, rfl⟩
theorem SL_FG {S S' M : Mem} {W D : Nat → Nat} {c : Nat} {C : Nat → Nat → Prop} (F : FG S S' C) (hC : ∀ k j, C k j → 330 ≤ k ∧ k ≤ 333) (hR : ∀ j, gR S' 323 j = gR S 323 j) (h : SL S M W D c) : SL S' M W D c := by
  obtain ⟨h1, h2, h3, h4, h5, h6⟩ := h
  have n : ∀ k j, (k < 330 ∨ 333 < k) → ¬ C k j := fun k j hk q => by have := hC k j q; omega
  refine ⟨by rw [FG_I F (n _ _ (by omega))]; exact h1, h2, h3, h4, fun k hk => ?_, fun k hk1 hk2 => ?_⟩
  · rw [FG_I F (n 341 _ (by omega)), FG_I F (n 326 _ (by omega)), FG_I F (n 328 _ (by omega))]; exact h5 k hk
  · rw [FG_I F (n 325 _ (by omega)), FG_I F (n 327 _ (by omega)), hR]; exact h6 k hk1 hk2
theorem X5_seat76 {fl : Nat} {M : Mem} {W D : Nat → Nat} {c : Nat} {t : Nat → Int} (ht : ∀ k, k ≤ c → t (W k) = -1) : ∀ (m k : Nat) (S : Mem) (n : Nat), PB S M → SL S M W D c → k + m = c + 1 → m < n → (∀ i : Nat, (i : Int) < iI S 341 0 → gL S 331 i = moT M (PLC t W D k) i (-1)) → (∀ i, i < k → alT M (PLC t W D (i + 1)) (W i)) →
    ∃ S', B_X5_seatAll_76 fl n 321 (oI k) S = some (oB (∀ i, i < c + 1 → alT M (PLC t W D (i + 1)) (W i)), S') ∧ FG S S' (fun k j => k = 331) ∧ (∀ j, gR S' 323 j = gR S 323 j) ∧ ((∀ i, i < c + 1 → alT M (PLC t W D (i + 1)) (W i)) → ∀ i : Nat, (i : Int) < iI S 341 0 → gL S' 331 i = moT M (PLC t W D (c + 1)) i (-1)) := by
  intro m
  induction m with
  | zero =>
    intro k S n hB hS h hn hp hal
    obtain ⟨n, rfl⟩ : ∃ n', n = n' + 1 := ⟨n - 1, by omega⟩
    have hk : k = c + 1 := by omega
    subst hk
    refine ⟨S, ?_, FG_refl _ _, fun _ => rfl, fun _ => hp⟩
    unfold B_X5_seatAll_76
    have := hS.2.1
    rw [show gI S 321 2 = oI (c : Int) from by rw [gI_oI, hS.1], if_pos (by rw [oI_lt (by omega) (by omega) (by omega) (by omega)]; omega)]
    exact oBs_t hal S
  | succ m ih =>
    intro k S n hB hS h hn hp hal
    obtain ⟨n, rfl⟩ : ∃ n', n = n' + 1 := ⟨n - 1, by omega⟩
    have hB' := hB
    obtain ⟨hs, -, hv, hc, hL, hF, -⟩ := hB'
    have bn := VRn hv
    unfold VN at bn
    have c2 := hS.2.1
    obtain ⟨d1, d2, d3⟩ := hS.2.2.2.2.1 k (by omega)
    obtain ⟨w1, w2, -⟩ := SL_w hB hS (k := k) (by omega)
    have W12 := SL_12 hS (k := k) (by omega)
    have tk : (oI (k : Int)).toNatClampNeg = k := by rw [oI_nat (by omega) (by omega), Int.toNat_natCast]
    have td : (oI (D k : Int)).toNatClampNeg = D k := by rw [oI_nat (by omega) (by omega), Int.toNat_natCast]
    have r3 : ∀ n : Nat, n = 3 → inR (oI (k : Int)) n := fun n hn => (oI_inR (by omega) (by omega)).mpr (by omega)
    have r6 : ∀ n : Nat, n = 6 → inR (oI (D k : Int)) n := fun n hn => (oI_inR (by omega) (by omega)).mpr (by omega)
    have g26 : gI S 326 (oI (k : Int)).toNatClampNeg = oI (D k : Int) := by rw [tk, gI_oI, d2]
    have w1' : ldO S 323 (oI (k : Int)).toNatClampNeg 5 = some (wc W k) := by rw [tk]; exact w1
    have g31 : gL S 331 (oI (D k : Int)).toNatClampNeg = moT M (PLC t W D k) (D k) (-1) := by rw [td]; exact hp (D k) d1
    have tw : PLC t W D k (W k) = -1 := by
      rw [PLC_n k (fun i hi z => by have := hS.2.2.2.1 i k (by omega) (by omega) z; omega)]
      exact ht k (by omega)
    have al := al_add hF W12 tw (p := D k) (by omega)
    have en : oI (k : Int) + 1 = oI ((k + 1 : Nat) : Int) := by rw [oI_lit, oI_add]; rfl
    by_cases hz : moT M (PLC t W D k) (D k) (-1) &&& mI (iI M 343 (W k)) (iI M 344 (W k)) = 0
    · obtain ⟨S1, e1, F1, y1⟩ := stL S 331 (oI (D k : Int)).toNatClampNeg (moT M (PLC t W D k) (D k) (-1) ||| mI (iI M 343 (W k)) (iI M 344 (W k)))
      rw [td] at F1 y1
      have hR1 : ∀ j, gR S1 323 j = gR S 323 j := fun j => by rw [← e1]; rfl
      obtain ⟨S', g1, g2, g3, g4⟩ := ih (k + 1) S1 n (PB_FG F1 (by unfold plC; omega) hB) (SL_FG F1 (by omega) hR1 hS) (by omega) (by omega) (fun i hi => by
        rw [FG_I F1 (by omega)] at hi
        rw [show PLC t W D (k + 1) = up (PLC t W D k) (W k) (D k) from rfl, mo_add hF W12 tw _ _ (by omega)]
        by_cases hid : i = D k
        · subst hid; rw [if_pos rfl]; exact y1
        · rw [if_neg (by omega), FG_L F1 (by omega)]; exact hp i hi) (fun i hi => by
        by_cases hik : i = k
        · subst hik; exact al.mpr hz
        · exact hal i (by omega))
      refine ⟨S', ?_, FG_trans (FG_mono F1 (by omega)) g2, fun j => by rw [g3, hR1], fun ha i hi => g4 ha i (by rw [FG_I F1 (by omega)]; exact hi)⟩
      unfold B_X5_seatAll_76
      rw [show gI S 321 2 = oI (c : Int) from by rw [gI_oI, hS.1], if_neg (by rw [oI_lt (by omega) (by omega) (by omega) (by omega)]; omega), ld_321_11 hs, bd_some, ld_321_6 hs, bd_some]
      dsimp only
      rw [g26, gd_t (r3 3 rfl), gd_t (r6 6 rfl), ld_321_3 hs, bd_some]
      dsimp only
      rw [gd_t (r3 3 rfl), w1', bd_some, g31, w2, if_pos ((lgc0 _).mpr hz), bd_some, bd_some]
      dsimp only
      rw [g26, gd_t (r3 3 rfl), gd_t (r6 6 rfl), bd_some]
      dsimp only
      rw [gd_t (r3 3 rfl), w1', bd_some, gd_t (r6 6 rfl), nx_eq, g31, w2, e1, en]
      exact g1
    · refine ⟨S, ?_, FG_refl _ _, fun _ => rfl, fun ha => absurd (al.mp (ha k (by omega))) hz⟩
      unfold B_X5_seatAll_76
      rw [show gI S 321 2 = oI (c : Int) from by rw [gI_oI, hS.1], if_neg (by rw [oI_lt (by omega) (by omega) (by omega) (by omega)]; omega), ld_321_11 hs, bd_some, ld_321_6 hs, bd_some]
      dsimp only
      rw [g26, gd_t (r3 3 rfl), gd_t (r6 6 rfl), ld_321_3 hs, bd_some]
      dsimp only
      rw [gd_t (r3 3 rfl), w1', bd_some, g31, w2, if_neg (fun q => hz ((lgc0 _).mp q))]
      exact oBs_f (fun ha => hz (al.mp (ha k (by omega)))) S
theorem X5_seat33 {fl : Nat} (hfl : 1000 ≤ fl) {M : Mem} {W D : Nat → Nat} {c : Nat} : ∀ (m k : Nat) (S : Mem) (n : Nat), PB S M → SL S M W D c → k + m = c + 1 → 1 ≤ k → m < n → (∀ i : Nat, (i : Int) < iI S 341 0 → gL S 331 i = moT M (RMV (iI M 342) W (k - 1)) i (-1)) →
    ∃ S', B_X5_seatAll_33 fl n 321 (oI k) S = some (oB (∀ i, i < c + 1 → alT M (PLC (RMV (iI M 342) W c) W D (i + 1)) (W i)), S') ∧ FG S S' (fun k j => k = 331) ∧ (∀ j, gR S' 323 j = gR S 323 j) ∧ ((∀ i, i < c + 1 → alT M (PLC (RMV (iI M 342) W c) W D (i + 1)) (W i)) → ∀ i : Nat, (i : Int) < iI S 341 0 → gL S' 331 i = moT M (PLC (RMV (iI M 342) W c) W D (c + 1)) i (-1)) := by
  intro m
  induction m with
  | zero =>
    intro k S n hB hS h h1 hn hp
    obtain ⟨n, rfl⟩ : ∃ n', n = n' + 1 := ⟨n - 1, by omega⟩
    have hk : k = c + 1 := by omega
    subst hk
    have c2 := hS.2.1
    have t12 : ∀ k, k ≤ c → RMV (iI M 342) W c (W k) = -1 := fun k hk => by
      by_cases h0 : k = 0
      · subst h0
        rw [RMV_n c (fun i hi1 hi2 z => by have := hS.2.2.2.1 i 0 hi2 (by omega) z; omega), hS.2.2.1]
        exact hB.2.2.2.2.1.2.1
      · exact RMV_m c k (by omega) hk
    obtain ⟨S', g1, g2, g3, g4⟩ := X5_seat76 (fl := fl) (M := M) (W := W) (D := D) (c := c) (t := RMV (iI M 342) W c) t12 (c + 1) 0 S fl hB hS (by omega) (by omega) hp (fun i hi => by omega)
    refine ⟨S', ?_, g2, g3, g4⟩
    unfold B_X5_seatAll_33
    rw [show gI S 321 2 = oI (c : Int) from by rw [gI_oI, hS.1], if_pos (by rw [oI_lt (by omega) (by omega) (by omega) (by omega)]; omega)]
    exact g1
  | succ m ih =>
    intro k S n hB hS h h1 hn hp
    obtain ⟨n, rfl⟩ : ∃ n', n = n' + 1 := ⟨n - 1, by omega⟩
    have hB' := hB
    obtain ⟨hs, -, hv, hc, hL, hF, -⟩ := hB'
    have bn := VRn hv
    unfold VN at bn
    have c2 := hS.2.1
    obtain ⟨a1, a2, a3, a4, a5⟩ := hS.2.2.2.2.2 k h1 (by omega)
    obtain ⟨w1, w2, -⟩ := SL_w hB hS (k := k) (by omega)
    have pl := PB_pl hB (q := W k) (by omega)
    obtain ⟨o, ho⟩ : ∃ o : Nat, iI M 342 (W k) = o := ⟨(iI M 342 (W k)).toNat, by omega⟩
    have tk : (oI (k : Int)).toNatClampNeg = k := by rw [oI_nat (by omega) (by omega), Int.toNat_natCast]
    have td : (oI (o : Int)).toNatClampNeg = o := by rw [oI_nat (by omega) (by omega), Int.toNat_natCast]
    have r3 : ∀ n : Nat, n = 3 → inR (oI (k : Int)) n := fun n hn => (oI_inR (by omega) (by omega)).mpr (by omega)
    have r6 : ∀ n : Nat, n = 6 → inR (oI (o : Int)) n := fun n hn => (oI_inR (by omega) (by omega)).mpr (by omega)
    have g25 : gI S 325 (oI (k : Int)).toNatClampNeg = oI (o : Int) := by rw [tk, gI_oI, a4, ho]
    have w1' : ldO S 323 (oI (k : Int)).toNatClampNeg 5 = some (wc W k) := by rw [tk]; exact w1
    have g31 : gL S 331 (oI (o : Int)).toNatClampNeg = moT M (RMV (iI M 342) W (k - 1)) o (-1) := by rw [td]; exact hp o (by omega)
    have en : oI (k : Int) + 1 = oI ((k + 1 : Nat) : Int) := by rw [oI_lit, oI_add]; rfl
    have tw : RMV (iI M 342) W (k - 1) (W k) = o := by
      rw [RMV_n (k - 1) (fun i hi1 hi2 z => by have := hS.2.2.2.1 i k (by omega) (by omega) z; omega)]
      exact ho
    have hD := DJ_RMV (W := W) (DJ_LT hv hL) (k - 1)
    have hr : RMV (iI M 342) W k = up (RMV (iI M 342) W (k - 1)) (W k) (-1) := by
      obtain ⟨j, rfl⟩ : ∃ j, k = j + 1 := ⟨k - 1, by omega⟩
      rfl
    obtain ⟨S1, e1, F1, y1⟩ := stL S 331 (oI (o : Int)).toNatClampNeg (moT M (RMV (iI M 342) W (k - 1)) o (-1) &&& (mI (iI M 343 (W k)) (iI M 344 (W k)) ^^^ (-1)))
    rw [td] at F1 y1
    have hR1 : ∀ j, gR S1 323 j = gR S 323 j := fun j => by rw [← e1]; rfl
    obtain ⟨S', g1, g2, g3, g4⟩ := ih (k + 1) S1 n (PB_FG F1 (by unfold plC; omega) hB) (SL_FG F1 (by omega) hR1 hS) (by omega) (by omega) (by omega) (fun i hi => by
      rw [FG_I F1 (by omega)] at hi
      rw [show k + 1 - 1 = k by omega, hr, mo_rm hF hD (by omega) (by rw [tw]; omega) _ (by omega), tw]
      by_cases hid : i = o
      · subst hid; rw [if_pos rfl]; exact y1
      · rw [if_neg (by omega), FG_L F1 (by omega)]; exact hp i hi)
    refine ⟨S', ?_, FG_trans (FG_mono F1 (by omega)) g2, fun j => by rw [g3, hR1], fun ha i hi => g4 ha i (by rw [FG_I F1 (by omega)]; exact hi)⟩
    unfold B_X5_seatAll_33
    rw [show gI S 321 2 = oI (c : Int) from by rw [gI_oI, hS.1], if_neg (by rw [oI_lt (by omega) (by omega) (by omega) (by omega)]; omega), ld_321_11 hs, bd_some, ld_321_5 hs, bd_some]
    dsimp only
    rw [g25, gd_t (r3 3 rfl), gd_t (r6 6 rfl), ld_321_3 hs, bd_some]
    dsimp only
    rw [gd_t (r3 3 rfl), w1', bd_some, gd_t (r6 6 rfl), nx_eq, g31, w2, e1, en]
    exact g1
theorem X5_seat2 {fl : Nat} (hfl : 1000 ≤ fl) {M : Mem} {W D : Nat → Nat} {c : Nat} : ∀ (m i : Nat) (S : Mem) (n : Nat), PB S M → SL S M W D c → BL S M → iI S 341 0 = ((i + m : Nat) : Int) → m < n → (∀ x : Nat, x < i → gL S 331 x = moT M (iI M 342) x (-1)) →
    ∃ S', B_X5_seatAll_2 fl n 321 (oI i) S = some (oB (∀ i, i < c + 1 → alT M (PLC (RMV (iI M 342) W c) W D (i + 1)) (W i)), S') ∧ FG S S' (fun k j => k = 331) ∧ (∀ j, gR S' 323 j = gR S 323 j) ∧ ((∀ i, i < c + 1 → alT M (PLC (RMV (iI M 342) W c) W D (i + 1)) (W i)) → ∀ i : Nat, (i : Int) < iI S 341 0 → gL S' 331 i = moT M (PLC (RMV (iI M 342) W c) W D (c + 1)) i (-1)) := by
  intro m
  induction m with
  | zero =>
    intro i S n hB hS hbl h hn hp
    obtain ⟨n, rfl⟩ : ∃ n', n = n' + 1 := ⟨n - 1, by omega⟩
    have hB' := hB
    obtain ⟨hs, -, hv, hc, -⟩ := hB'
    have bn := VRn hv
    unfold VN at bn
    have c2 := hS.2.1
    obtain ⟨S', g1, g2, g3, g4⟩ := X5_seat33 (fl := fl) hfl (M := M) (W := W) (D := D) (c := c) c 1 S fl hB hS (by omega) (by omega) (by omega) (fun x hx => hp x (by omega))
    refine ⟨S', ?_, g2, g3, g4⟩
    unfold B_X5_seatAll_2
    rw [ld_321_0 hs, bd_some, gI_oI, c_pc hc, if_pos (by rw [oI_le (by omega) (by omega) (by omega) (by omega)]; omega)]
    exact g1
  | succ m ih =>
    intro i S n hB hS hbl h hn hp
    obtain ⟨n, rfl⟩ : ∃ n', n = n' + 1 := ⟨n - 1, by omega⟩
    have hB' := hB
    obtain ⟨hs, -, hv, hc, -⟩ := hB'
    have bn := VRn hv
    unfold VN at bn
    have td : (oI (i : Int)).toNatClampNeg = i := by rw [oI_nat (by omega) (by omega), Int.toNat_natCast]
    have r6 : ∀ n : Nat, n = 6 → inR (oI (i : Int)) n := fun n hn => (oI_inR (by omega) (by omega)).mpr (by omega)
    have en : oI (i : Int) + 1 = oI ((i + 1 : Nat) : Int) := by rw [oI_lit, oI_add]; rfl
    obtain ⟨S1, e1, F1, y1⟩ := stL S 331 (oI (i : Int)).toNatClampNeg (gL S 330 (oI (i : Int)).toNatClampNeg)
    rw [td] at F1 y1
    have hR1 : ∀ j, gR S1 323 j = gR S 323 j := fun j => by rw [← e1]; rfl
    have hbl1 : BL S1 M := ⟨fun x hx => by rw [FG_L F1 (by omega)]; rw [FG_I F1 (by omega)] at hx; exact hbl.1 x hx, fun c n h1 h2 => by rw [FG_I F1 (by omega)]; exact hbl.2 c n h1 h2⟩
    obtain ⟨S', g1, g2, g3, g4⟩ := ih (i + 1) S1 n (PB_FG F1 (by unfold plC; omega) hB) (SL_FG F1 (by omega) hR1 hS) hbl1 (by rw [FG_I F1 (by omega), h]; congr 1; omega) (by omega) (fun x hx => by
      by_cases hxi : x = i
      · subst hxi; rw [y1]; exact hbl.1 x (by omega)
      · rw [FG_L F1 (by omega)]; exact hp x (by omega))
    refine ⟨S', ?_, FG_trans (FG_mono F1 (by omega)) g2, fun j => by rw [g3, hR1], fun ha i hi => g4 ha i (by rw [FG_I F1 (by omega)]; exact hi)⟩
    unfold B_X5_seatAll_2
    rw [ld_321_0 hs, bd_some, gI_oI, c_pc hc, if_neg (by rw [oI_le (by omega) (by omega) (by omega) (by omega)]; omega), ld_321_11 hs, bd_some, ld_321_10 hs, bd_some]
    dsimp only
    rw [gd_t (r6 6 rfl), gd_t (r6 6 rfl), nx_eq, e1, en]
    exact g1
-- the places at the end of a plan
def PT (M : Mem) (W D : Nat → Nat) (c : Nat) : Nat → Int := PLC (iI M 342) W D (c + 1)
theorem PT_R {M : Mem} {W D : Nat → Nat} {c : Nat} (hW : inj W c) {x : Nat} (hx : x ≤ 12) : PLC (RMV (iI M 342) W c) W D (c + 1) x = PT M W D c x := by
  refine PLC_base (W := W) (D := D) hW (fun y hy hn => ?_) x hx
  exact RMV_n c (fun i h1 h2 => hn i h2)
theorem X5_seatAll {fl : Nat} (hfl : 1000 ≤ fl) {S M : Mem} {W D : Nat → Nat} {c : Nat} (hB : PB S M) (hS : SL S M W D c) (hbl : BL S M) :
    ∃ S', F_X5_seatAll fl 321 S = some (oB (∀ i, i < c + 1 → alT M (PT M W D c) (W i)), S') ∧ FG S S' (fun k j => k = 331) ∧ (∀ j, gR S' 323 j = gR S 323 j) ∧ ((∀ i, i < c + 1 → alT M (PT M W D c) (W i)) → ∀ i : Nat, (i : Int) < iI S 341 0 → gL S' 331 i = moT M (PT M W D c) i (-1)) := by
  have bn := VRn hB.2.2.1
  unfold VN at bn
  have c2 := hS.2.1
  obtain ⟨S', g1, g2, g3, g4⟩ := X5_seat2 (fl := fl) hfl (iI S 341 0).toNat 0 S fl hB hS hbl (by omega) (by omega) (fun x hx => by omega)
  have t12 : ∀ k, k ≤ c → RMV (iI M 342) W c (W k) = -1 := fun k hk => by
    by_cases h0 : k = 0
    · subst h0
      rw [RMV_n c (fun i hi1 hi2 z => by have := hS.2.2.2.1 i 0 hi2 (by omega) z; omega), hS.2.2.1]
      exact hB.2.2.2.2.1.2.1
    · exact RMV_m c k (by omega) hk
  have hF := hB.2.2.2.2.2.1
  have seq := al_seq hF (t := RMV (iI M 342) W c) (W := W) (D := D) (c := c) hS.2.2.2.1 (fun i hi => SL_12 hS hi) t12
  have eqv : (∀ i, i < c + 1 → alT M (PLC (RMV (iI M 342) W c) W D (i + 1)) (W i)) ↔ (∀ i, i < c + 1 → alT M (PT M W D c) (W i)) := by
    constructor
    · intro h i hi
      have := seq.mp (fun k hk => h k (by omega)) i (by omega)
      exact (alT_cg (AG_refl M) (fun q hq => (PT_R hS.2.2.2.1 hq).symm) (SL_12 hS (by omega))).mpr this
    · intro h i hi
      refine seq.mpr (fun k hk => ?_) i (by omega)
      exact (alT_cg (AG_refl M) (fun q hq => (PT_R hS.2.2.2.1 hq)) (SL_12 hS (by omega))).mpr (h k (by omega))
  refine ⟨S', ?_, g2, g3, fun ha i hi => ?_⟩
  · unfold F_X5_seatAll
    exact g1.trans (congrArg (fun z => some (z, S')) (oB_cg eqv))
  · rw [g4 (eqv.mpr ha) i hi]
    exact moT_cg (AG_refl M) (fun q hq => PT_R hS.2.2.2.1 hq) _ _
