theorem nar_eq {a : Int} (h0 : 0 ≤ a) (h1 : a < 65536) : vp_nar .char (oI a) = oI a := by
  have e : vp_nar .char (oI a) = (Int32.toUInt32 (oI a) % 65536).toInt32 := rfl
  have ht : (oI a).toBitVec.toInt = a := Int32.toInt_ofInt_of_le (by omega) (by omega)
  have hl := (oI a).toBitVec.isLt
  rw [BitVec.toInt_eq_toNat_cond] at ht
  have hn : (oI a).toBitVec.toNat = a.toNat := by
    split at ht <;> omega
  have hm : Int32.toUInt32 (oI a) % 65536 = Int32.toUInt32 (oI a) := by
    refine UInt32.toNat_inj.mp ?_
    rw [UInt32.toNat_mod]
    refine Nat.mod_eq_of_lt ?_
    show (oI a).toBitVec.toNat < 65536
    omega
  rw [e, hm]
  rfl
-- the reference's readers of the same text
def TR (u : Mem) (T : Nat → Int) (L : Nat) : Prop := RO u ∧ L ≤ 30 ∧ iI u 340 18 = L ∧ (∀ k, k < L → iI u 349 k = T k) ∧ ∀ k, 0 ≤ T k ∧ T k < 65536
theorem TR_FG {s s' : Mem} {T : Nat → Int} {L : Nat} {C : Nat → Nat → Prop} (F : FG s s' C) (hC : ∀ k j, C k j → (k = 340 → j ≠ 18) ∧ k ≠ 349) (h : TR s T L) : TR s' T L := by
  obtain ⟨h1, h2, h3, h4, h5⟩ := h
  exact ⟨FG_RO F h1, h2, by rw [FG_I F (fun q => (hC _ _ q).1 rfl rfl)]; exact h3, fun k hk => by rw [FG_I F (fun q => (hC _ _ q).2 rfl)]; exact h4 k hk, h5⟩
theorem X8_here {fl : Nat} {u : Mem} {T : Nat → Int} {L p : Nat} (h : TR u T L) (h2 : iI u 340 19 = p) (hp : p ≤ L) : F_X8_here fl 340 u = some (oI (if p < L then T p else 0)) := by
  obtain ⟨hs, l30, h1, hb, hT⟩ := h
  have b := hT p
  unfold F_X8_here
  rw [show gI u 340 18 = oI (L : Int) from by rw [gI_oI, h1], show gI u 340 19 = oI (p : Int) from by rw [gI_oI, h2]]
  by_cases hpl : p < L
  · have g : gI u 349 (oI (p : Int)).toNatClampNeg = oI (T p) := by
      rw [oI_nat (by omega) (by omega), gI_oI]
      exact congrArg oI (hb p hpl)
    rw [if_neg (by rw [oI_le (by omega) (by omega) (by omega) (by omega)]; omega), ld_340_17 hs, bd_some, gd_t ((oI_inR (by omega) (by omega)).mpr (by omega))]
    dsimp only
    rw [g, gd_t (nar_eq b.1 b.2), if_pos hpl]
  · rw [if_pos (by rw [oI_le (by omega) (by omega) (by omega) (by omega)]; omega), gd_t (by decide), if_neg hpl]
    rfl
theorem X8_isDigit {fl : Nat} {u : Mem} {T : Nat → Int} {L p : Nat} (h : TR u T L) (h2 : iI u 340 19 = p) (hp : p ≤ L) : F_X8_isDigit fl 340 u = some (oB (dgP T L p)) := by
  have hh := X8_here (fl := fl) h h2 hp
  obtain ⟨hs, l30, h1, hb, hT⟩ := h
  have b := hT p
  unfold F_X8_isDigit
  rw [show gI u 340 18 = oI (L : Int) from by rw [gI_oI, h1], show gI u 340 19 = oI (p : Int) from by rw [gI_oI, h2]]
  by_cases hpl : p < L
  · have hi : F_X8_in fl (oI (T p)) 48 57 u = some (oB (48 ≤ T p ∧ T p ≤ 57)) := X8_in (v := T p) (a := 48) (b := 57) (by omega) (by omega) (by omega) (by omega) (by omega) (by omega)
    rw [if_neg (by rw [oI_le (by omega) (by omega) (by omega) (by omega)]; omega), hh, if_pos hpl, bd_some, hi, bd_some]
    by_cases hd : 48 ≤ T p ∧ T p ≤ 57
    · rw [ifB_t hd]; exact sB_t ⟨hpl, hd⟩
    · rw [ifB_f hd]; exact sB_f (fun z => hd z.2)
  · rw [if_pos (by rw [oI_le (by omega) (by omega) (by omega) (by omega)]; omega)]
    exact sB_f (fun z => hpl z.1)
theorem X8_number_y {fl : Nat} {u : Mem} {T : Nat → Int} {L p : Nat} (h : TR u T L) (h2 : iI u 340 19 = p) (h20 : iI u 340 20 = -1) (hd : dgP T L p) : ∃ u', F_X8_number fl 340 u = some (oI (nmV T L p), u') ∧ FG u u' (fun k j => k = 340 ∧ j = 19) ∧ iI u' 340 19 = nmE T L p := by
  have hp := hd.1
  have l30 := h.2.1
  have b := h.2.2.2.2 p
  have b' := h.2.2.2.2 (p + 1)
  have hh := X8_here (fl := fl) h h2 (by omega)
  rw [if_pos hp] at hh
  obtain ⟨u1, e1, F1, y1⟩ := stI u 340 19 (v := ((p + 1 : Nat) : Int)) (by omega) (by omega)
  have hR1 : TR u1 T L := TR_FG F1 (by omega) h
  have dg1 := X8_isDigit (fl := fl) hR1 y1 (by omega)
  have g20 : gI u 340 20 = oI (-1) := by rw [gI_oI, h20]
  have start : F_X8_number fl 340 u = (if oI (T p - 48) = 0 then some (oI (T p - 48), u1) else (if oB (dgP T L (p + 1)) = 0 then some (oI (T p - 48), u1) else bd (F_X8_here fl 340 u1) fun q10 => nx (pI u1 340 19 ((gI u1 340 19) + (1 : Int32))) fun m12 => some (((((10 : Int32) * oI (T p - 48)) + q10) - (48 : Int32)), m12))) := by
    unfold F_X8_number B_X8_number_22
    rw [g20, if_neg (by decide), X8_isDigit (fl := fl) h h2 (by omega), bd_some, ifB_t hd, if_pos (by decide), hh, bd_some, show gI u 340 19 = oI (p : Int) from by rw [gI_oI, h2], show oI (p : Int) + 1 = oI ((p + 1 : Nat) : Int) from by rw [oI_lit, oI_add]; rfl, nx_eq, e1, show (48 : Int32) = oI 48 from rfl, oI_sub, dg1, bd_some]
  by_cases h48 : T p ≤ 48
  · refine ⟨u1, ?_, F1, by rw [y1]; unfold nmE; rw [if_pos (Or.inl h48)]⟩
    rw [start, if_pos (by rw [show (0 : Int32) = oI 0 from rfl, oI_eq (by omega) (by omega) (by omega) (by omega)]; have := hd.2.1; omega)]
    unfold nmV
    rw [if_pos (Or.inl h48)]
  · rw [if_neg (by rw [show (0 : Int32) = oI 0 from rfl, oI_eq (by omega) (by omega) (by omega) (by omega)]; omega)] at start
    by_cases hd2 : dgP T L (p + 1)
    · have nn : ¬ (T p ≤ 48 ∨ ¬ dgP T L (p + 1)) := by
        rintro (z | z)
        · exact h48 z
        · exact z hd2
      have hh1 := X8_here (fl := fl) hR1 y1 (by omega)
      rw [if_pos hd2.1] at hh1
      obtain ⟨u2, e2, F2, y2⟩ := stI u1 340 19 (v := ((p + 2 : Nat) : Int)) (by omega) (by omega)
      refine ⟨u2, ?_, FG_trans F1 F2, by rw [y2]; unfold nmE; rw [if_neg nn]⟩
      rw [start, ifB_t hd2, hh1, bd_some, show gI u1 340 19 + 1 = oI ((p + 2 : Nat) : Int) from by rw [gI_oI, y1, oI_lit, oI_add]; rfl, nx_eq, e2, show (10 : Int32) = oI 10 from rfl, oI_mul, oI_add, show (48 : Int32) = oI 48 from rfl, oI_sub]
      unfold nmV
      rw [if_neg nn]
      congr 3
      omega
    · refine ⟨u1, ?_, F1, by rw [y1]; unfold nmE; rw [if_pos (Or.inr hd2)]⟩
      rw [start, ifB_f hd2]
      unfold nmV
      rw [if_pos (Or.inr hd2)]
theorem X8_number_f {fl : Nat} {u : Mem} (h20 : 0 ≤ iI u 340 20) : F_X8_number fl 340 u = some (0, u) := by
  have hi := iI_hi u 340 20
  have g : gI u 340 20 = oI (iI u 340 20) := gI_oI _ _ _
  unfold F_X8_number B_X8_number_22
  rw [g, if_pos (by rw [show (0 : Int32) = oI 0 from rfl, oI_le (by omega) (by omega) (by omega) (by omega)]; omega), if_neg (by rw [show (0 : Int32) = oI 0 from rfl, oI_lt (by omega) (by omega) (by omega) (by omega)]; omega)]
theorem X8_number_n {fl : Nat} {u : Mem} {T : Nat → Int} {L p : Nat} (h : TR u T L) (h2 : iI u 340 19 = p) (hp : p ≤ L) (h20 : iI u 340 20 = -1) (hd : ¬ dgP T L p) : F_X8_number fl 340 u = some (0, pI u 340 20 (oI (p : Int))) := by
  have l30 := h.2.1
  have g20 : gI u 340 20 = oI (-1) := by rw [gI_oI, h20]
  have y : iI (pI u 340 20 (oI (p : Int))) 340 20 = p := iI_pe (by omega) (by omega)
  unfold F_X8_number B_X8_number_22
  rw [g20, if_neg (by decide), X8_isDigit (fl := fl) h h2 hp, bd_some, ifB_f hd, nx_eq, show gI u 340 19 = oI (p : Int) from by rw [gI_oI, h2], show gI (pI u 340 20 (oI (p : Int))) 340 20 = oI (p : Int) from by rw [gI_oI, y], if_neg (by rw [show (0 : Int32) = oI 0 from rfl, oI_lt (by omega) (by omega) (by omega) (by omega)]; omega)]
theorem X8_wants_f {fl : Nat} {u : Mem} (h20 : 0 ≤ iI u 340 20) (v : Int32) : F_X8_wants fl 340 v u = some u := by
  have hi := iI_hi u 340 20
  have g : gI u 340 20 = oI (iI u 340 20) := gI_oI _ _ _
  unfold F_X8_wants
  rw [g, if_neg (by rw [show (0 : Int32) = oI 0 from rfl, oI_lt (by omega) (by omega) (by omega) (by omega)]; omega)]
theorem X8_wants_y {fl : Nat} {u : Mem} {T : Nat → Int} {L p : Nat} (h : TR u T L) (h2 : iI u 340 19 = p) (hp : p < L) (h20 : iI u 340 20 = -1) {ch : Int} (hc : T p = ch) : F_X8_wants fl 340 (oI ch) u = some (pI u 340 19 (oI ((p + 1 : Nat) : Int))) := by
  have l30 := h.2.1
  have g20 : gI u 340 20 = oI (-1) := by rw [gI_oI, h20]
  have hh := X8_here (fl := fl) h h2 (by omega)
  rw [if_pos hp] at hh
  unfold F_X8_wants
  rw [g20, if_pos (by decide), show gI u 340 19 = oI (p : Int) from by rw [gI_oI, h2], show gI u 340 18 = oI (L : Int) from by rw [gI_oI, h.2.2.1], if_neg (by rw [oI_eq (by omega) (by omega) (by omega) (by omega)]; omega), hh, bd_some, if_pos (congrArg oI hc), nx_eq, show oI (p : Int) + 1 = oI ((p + 1 : Nat) : Int) from by rw [oI_lit, oI_add]; rfl]
theorem X8_wants_n {fl : Nat} {u : Mem} {T : Nat → Int} {L p : Nat} (h : TR u T L) (h2 : iI u 340 19 = p) (hp : p ≤ L) (h20 : iI u 340 20 = -1) {ch : Int} (c0 : 0 ≤ ch) (c1 : ch < 65536) (hc : ¬ (p < L ∧ T p = ch)) : F_X8_wants fl 340 (oI ch) u = some (pI u 340 20 (oI (p : Int))) := by
  have l30 := h.2.1
  have b := h.2.2.2.2 p
  have g20 : gI u 340 20 = oI (-1) := by rw [gI_oI, h20]
  have hh := X8_here (fl := fl) h h2 hp
  unfold F_X8_wants
  rw [g20, if_pos (by decide), show gI u 340 19 = oI (p : Int) from by rw [gI_oI, h2], show gI u 340 18 = oI (L : Int) from by rw [gI_oI, h.2.2.1]]
  by_cases hpl : p < L
  · rw [if_pos hpl] at hh
    rw [if_neg (by rw [oI_eq (by omega) (by omega) (by omega) (by omega)]; omega), hh, bd_some, if_neg (by rw [oI_eq (by omega) (by omega) (by omega) (by omega)]; exact fun z => hc ⟨hpl, z⟩), nx_eq]
  · rw [if_pos (by rw [oI_eq (by omega) (by omega) (by omega) (by omega)]; omega), nx_eq]
