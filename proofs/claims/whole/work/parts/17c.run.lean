-- (written by genZ.py) a step of the law, and the run
theorem law_step {k28 : Int32 → Mem → Option Int32} {fl : Nat} (hfl : 1000 ≤ fl) {xs : Nat → Int32} {Ln : Nat} {v5 : Int32} {s : Mem} (hI : Inv s) (h0 : ¬ (nI Ln) - (7 : Int32) < v5) (h1 : inR v5 Ln) (hr : inS v5 Ln) (hk : ∀ s', Inv s' → k28 (v5 + (7 : Int32)) s' = some 1) : B_L_law_step k28 fl xs Ln v5 s = some 1 := by
  unfold B_L_law_step
  rw [if_neg h0, gd_t h1]
  by_cases c0 : (xs v5.toNatClampNeg) &&& (63 : Int32) = 0
  · rw [if_pos c0]
    exact W_addPitch hfl hI hr hk
  rw [if_neg c0]
  by_cases c1 : (xs v5.toNatClampNeg) &&& (63 : Int32) = 1
  · rw [if_pos c1]
    exact W_pitch hfl hI hr hk
  rw [if_neg c1]
  by_cases c2 : (xs v5.toNatClampNeg) &&& (63 : Int32) = 2
  · rw [if_pos c2]
    exact W_setLimit hfl hI hr hk
  rw [if_neg c2]
  by_cases c3 : (xs v5.toNatClampNeg) &&& (63 : Int32) = 3
  · rw [if_pos c3]
    exact W_setRate hfl hI hr hk
  rw [if_neg c3]
  by_cases c4 : (xs v5.toNatClampNeg) &&& (63 : Int32) = 4
  · rw [if_pos c4]
    exact W_setGap hfl hI hr hk
  rw [if_neg c4]
  by_cases c5 : (xs v5.toNatClampNeg) &&& (63 : Int32) = 5
  · rw [if_pos c5]
    exact W_addSeason hfl hI hr hk
  rw [if_neg c5]
  by_cases c6 : (xs v5.toNatClampNeg) &&& (63 : Int32) = 6
  · rw [if_pos c6]
    exact W_dropSeason hfl hI hr hk
  rw [if_neg c6]
  by_cases c7 : (xs v5.toNatClampNeg) &&& (63 : Int32) = 7
  · rw [if_pos c7]
    exact W_season hfl hI hr hk
  rw [if_neg c7]
  by_cases c8 : (xs v5.toNatClampNeg) &&& (63 : Int32) = 8
  · rw [if_pos c8]
    exact W_leastStay hfl hI hr hk
  rw [if_neg c8]
  by_cases c9 : (xs v5.toNatClampNeg) &&& (63 : Int32) = 9
  · rw [if_pos c9]
    exact W_book hfl hI hr hk
  rw [if_neg c9]
  by_cases c10 : (xs v5.toNatClampNeg) &&& (63 : Int32) = 10
  · rw [if_pos c10]
    exact W_append hfl hI hr hk
  rw [if_neg c10]
  by_cases c11 : (xs v5.toNatClampNeg) &&& (63 : Int32) = 11
  · rw [if_pos c11]
    exact W_readBooking hfl hI hr hk
  rw [if_neg c11]
  by_cases c12 : (xs v5.toNatClampNeg) &&& (63 : Int32) = 12
  · rw [if_pos c12]
    exact W_fault hfl hI hr hk
  rw [if_neg c12]
  by_cases c13 : (xs v5.toNatClampNeg) &&& (63 : Int32) = 13
  · rw [if_pos c13]
    exact W_refusal hfl hI hr hk
  rw [if_neg c13]
  by_cases c14 : (xs v5.toNatClampNeg) &&& (63 : Int32) = 14
  · rw [if_pos c14]
    exact W_party hfl hI hr hk
  rw [if_neg c14]
  by_cases c15 : (xs v5.toNatClampNeg) &&& (63 : Int32) = 15
  · rw [if_pos c15]
    exact W_moves hfl hI hr hk
  rw [if_neg c15]
  by_cases c16 : (xs v5.toNatClampNeg) &&& (63 : Int32) = 16
  · rw [if_pos c16]
    exact W_moveOf hfl hI hr hk
  rw [if_neg c16]
  by_cases c17 : (xs v5.toNatClampNeg) &&& (63 : Int32) = 17
  · rw [if_pos c17]
    exact W_move hfl hI hr hk
  rw [if_neg c17]
  by_cases c18 : (xs v5.toNatClampNeg) &&& (63 : Int32) = 18
  · rw [if_pos c18]
    exact W_cancel hfl hI hr hk
  rw [if_neg c18]
  by_cases c19 : (xs v5.toNatClampNeg) &&& (63 : Int32) = 19
  · rw [if_pos c19]
    exact W_advance hfl hI hr hk
  rw [if_neg c19]
  by_cases c20 : (xs v5.toNatClampNeg) &&& (63 : Int32) = 20
  · rw [if_pos c20]
    exact W_tonight hfl hI hr hk
  rw [if_neg c20]
  by_cases c21 : (xs v5.toNatClampNeg) &&& (63 : Int32) = 21
  · rw [if_pos c21]
    exact W_obstacle hfl hI hr hk
  rw [if_neg c21]
  by_cases c22 : (xs v5.toNatClampNeg) &&& (63 : Int32) = 22
  · rw [if_pos c22]
    exact W_occupant hfl hI hr hk
  rw [if_neg c22]
  by_cases c23 : (xs v5.toNatClampNeg) &&& (63 : Int32) = 23
  · rw [if_pos c23]
    exact W_busyNight hfl hI hr hk
  rw [if_neg c23]
  by_cases c24 : (xs v5.toNatClampNeg) &&& (63 : Int32) = 24
  · rw [if_pos c24]
    exact W_firstFree hfl hI hr hk
  rw [if_neg c24]
  by_cases c25 : (xs v5.toNatClampNeg) &&& (63 : Int32) = 25
  · rw [if_pos c25]
    exact W_power hfl hI hr hk
  rw [if_neg c25]
  by_cases c26 : (xs v5.toNatClampNeg) &&& (63 : Int32) = 26
  · rw [if_pos c26]
    exact W_peak hfl hI hr hk
  rw [if_neg c26]
  by_cases c27 : (xs v5.toNatClampNeg) &&& (63 : Int32) = 27
  · rw [if_pos c27]
    exact W_gap hfl hI hr hk
  rw [if_neg c27]
  by_cases c28 : (xs v5.toNatClampNeg) &&& (63 : Int32) = 28
  · rw [if_pos c28]
    exact W_account hfl hI hr hk
  rw [if_neg c28]
  by_cases c29 : (xs v5.toNatClampNeg) &&& (63 : Int32) = 29
  · rw [if_pos c29]
    exact W_share hfl hI hr hk
  rw [if_neg c29]
  by_cases c30 : (xs v5.toNatClampNeg) &&& (63 : Int32) = 30
  · rw [if_pos c30]
    exact W_undo hfl hI hr hk
  rw [if_neg c30]
  by_cases c31 : (xs v5.toNatClampNeg) &&& (63 : Int32) = 31
  · rw [if_pos c31]
    exact W_save hfl hI hr hk
  rw [if_neg c31]
  by_cases c32 : (xs v5.toNatClampNeg) &&& (63 : Int32) = 32
  · rw [if_pos c32]
    exact W_restore hfl hI hr hk
  rw [if_neg c32]
  exact hk s hI
theorem law_run {fl : Nat} (hfl : 1000 ≤ fl) {xs : Nat → Int32} {Ln : Nat} (hL : Ln ≤ 3584) : ∀ (n i : Nat) (s : Mem), Inv s → 7 * i ≤ Ln → Ln < 7 * i + 7 * n → B_L_law fl xs Ln n (oI ((7 * i : Nat) : Int)) s = some 1
  | 0, i, s, hI, h1, h2 => by omega
  | n + 1, i, s, hI, h1, h2 => by
    have s7 : (7 : Int32) = oI 7 := rfl
    have up : ∀ j : Nat, j < 7 → Ln ≥ 7 * i + 7 → inR (oI ((7 * i : Nat) : Int) + oI (j : Int)) Ln := fun j hj h => by
      rw [oI_add, oI_inR (by omega) (by omega)]
      omega
    show B_L_law_step (B_L_law fl xs Ln n) fl xs Ln (oI ((7 * i : Nat) : Int)) s = some 1
    by_cases h : Ln < 7 * i + 7
    · unfold B_L_law_step
      rw [if_pos (by rw [oI_nI, s7, oI_sub, oI_lt (by omega) (by omega) (by omega) (by omega)]; omega)]
    · refine law_step hfl hI (by rw [oI_nI, s7, oI_sub, oI_lt (by omega) (by omega) (by omega) (by omega)]; omega) (by rw [oI_inR (by omega) (by omega)]; omega) ⟨up 1 (by omega) (by omega), up 2 (by omega) (by omega), up 3 (by omega) (by omega), up 4 (by omega) (by omega), up 5 (by omega) (by omega), up 6 (by omega) (by omega)⟩ (fun s' hI' => ?_)
      have hn := law_run hfl (xs := xs) hL n (i + 1) s' hI' (by omega) (by omega)
      rw [s7, oI_add, show ((7 * i : Nat) : Int) + 7 = ((7 * (i + 1) : Nat) : Int) by omega]
      exact hn
