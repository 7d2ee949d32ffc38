-- the class's readers of a text T of L bytes
def TC (s : Mem) (T : Nat → Int) (L : Nat) : Prop := RO s ∧ L ≤ 30 ∧ iI s 336 1 = L ∧ (∀ k, k < L → iI s 337 k = T k) ∧ ∀ k, 0 ≤ T k ∧ T k < 65536
theorem TC_FG {s s' : Mem} {T : Nat → Int} {L : Nat} {C : Nat → Nat → Prop} (F : FG s s' C) (hC : ∀ k j, C k j → (k = 336 → j ≠ 1) ∧ k ≠ 337) (h : TC s T L) : TC s' T L := by
  obtain ⟨h1, h2, h3, h4, h5⟩ := h
  exact ⟨FG_RO F h1, h2, by rw [FG_I F (fun q => (hC _ _ q).1 rfl rfl)]; exact h3, fun k hk => by rw [FG_I F (fun q => (hC _ _ q).2 rfl)]; exact h4 k hk, h5⟩
theorem TC_g {s : Mem} {T : Nat → Int} {L p : Nat} (h : TC s T L) (h2 : iI s 336 2 = p) (hp : p < L) : gI s 336 1 = oI (L : Int) ∧ gI s 336 2 = oI (p : Int) ∧ gI s 337 (oI (p : Int)).toNatClampNeg = oI (T p) ∧ inR (oI (p : Int)) 30 := by
  obtain ⟨hs, l30, h1, hb, -⟩ := h
  refine ⟨by rw [gI_oI, h1], by rw [gI_oI, h2], ?_, (oI_inR (by omega) (by omega)).mpr (by omega)⟩
  rw [oI_nat (by omega) (by omega), gI_oI]
  exact congrArg oI (hb p hp)
theorem X0_sign_y {fl : Nat} {s : Mem} {T : Nat → Int} {L p : Nat} (h : TC s T L) (h2 : iI s 336 2 = p) (hp : p < L) {ch : Int} (c0 : 0 ≤ ch) (c1 : ch < 65536) (hc : T p = ch) : ∃ s', F_X0_readSign fl 336 (oI ch) s = some (1, s') ∧ FG s s' (fun k j => k = 336 ∧ j = 2) ∧ iI s' 336 2 = ((p + 1 : Nat) : Int) := by
  have l30 := h.2.1
  obtain ⟨g1, g2, g3, g4⟩ := TC_g h h2 hp
  obtain ⟨s', e, F, y⟩ := stI s 336 2 (v := ((p + 1 : Nat) : Int)) (by omega) (by omega)
  refine ⟨s', ?_, F, y⟩
  unfold F_X0_readSign
  rw [g1, g2, if_neg (by rw [oI_le (by omega) (by omega) (by omega) (by omega)]; omega), ld_336_0 h.1, bd_some]
  dsimp only
  rw [if_neg (by rw [show nI 30 = oI 30 from rfl, oI_le (by omega) (by omega) (by omega) (by omega)]; omega), bd_some, gd_t g4]
  dsimp only
  rw [g3, if_pos (congrArg oI hc), nx_eq, show oI (p : Int) + 1 = oI ((p + 1 : Nat) : Int) from by rw [oI_lit, oI_add]; rfl, e]
theorem X0_sign_n {fl : Nat} {s : Mem} {T : Nat → Int} {L p : Nat} (h : TC s T L) (h2 : iI s 336 2 = p) (hp : p ≤ L) {ch : Int} (c0 : 0 ≤ ch) (c1 : ch < 65536) (hc : ¬ (p < L ∧ T p = ch)) : F_X0_readSign fl 336 (oI ch) s = some (0, s) := by
  have l30 := h.2.1
  have b := h.2.2.2.2 p
  unfold F_X0_readSign
  by_cases hpl : p < L
  · obtain ⟨g1, g2, g3, g4⟩ := TC_g h h2 hpl
    rw [g1, g2, if_neg (by rw [oI_le (by omega) (by omega) (by omega) (by omega)]; omega), ld_336_0 h.1, bd_some]
    dsimp only
    rw [if_neg (by rw [show nI 30 = oI 30 from rfl, oI_le (by omega) (by omega) (by omega) (by omega)]; omega), bd_some, gd_t g4]
    dsimp only
    rw [g3, if_neg (by rw [oI_eq (by omega) (by omega) (by omega) (by omega)]; exact fun z => hc ⟨hpl, z⟩)]
  · rw [show gI s 336 1 = oI (L : Int) from by rw [gI_oI, h.2.2.1], show gI s 336 2 = oI (p : Int) from by rw [gI_oI, h2], if_pos (by rw [oI_le (by omega) (by omega) (by omega) (by omega)]; omega)]
abbrev dgP (T : Nat → Int) (L p : Nat) : Prop := p < L ∧ 48 ≤ T p ∧ T p ≤ 57
theorem X0_digit_y {fl : Nat} {s : Mem} {T : Nat → Int} {L p : Nat} (h : TC s T L) (h2 : iI s 336 2 = p) (hd : dgP T L p) : ∃ s', F_X0_readDigit fl 336 s = some (oI (T p - 48), s') ∧ FG s s' (fun k j => k = 336 ∧ j = 2) ∧ iI s' 336 2 = ((p + 1 : Nat) : Int) := by
  have l30 := h.2.1
  obtain ⟨hp, d1, d2⟩ := hd
  obtain ⟨g1, g2, g3, g4⟩ := TC_g h h2 hp
  obtain ⟨s', e, F, y⟩ := stI s 336 2 (v := ((p + 1 : Nat) : Int)) (by omega) (by omega)
  have h' : TC s' T L := TC_FG F (by omega) h
  have g5 : gI s' 336 2 - 1 = oI (p : Int) := by rw [gI_oI, y, oI_lit, oI_sub]; congr 1; omega
  have g6 : gI s' 337 (oI (p : Int)).toNatClampNeg = oI (T p) := by
    rw [oI_nat (by omega) (by omega), gI_oI]
    exact congrArg oI (h'.2.2.2.1 p hp)
  refine ⟨s', ?_, F, y⟩
  unfold F_X0_readDigit
  rw [g1, g2, if_neg (by rw [oI_le (by omega) (by omega) (by omega) (by omega)]; omega), ld_336_0 h.1, bd_some]
  dsimp only
  rw [if_neg (by rw [show nI 30 = oI 30 from rfl, oI_le (by omega) (by omega) (by omega) (by omega)]; omega), bd_some, gd_t g4]
  dsimp only
  rw [g3, if_neg (by rw [show (48 : Int32) = oI 48 from rfl, oI_lt (by omega) (by omega) (by omega) (by omega)]; omega), bd_some, gd_t g4]
  dsimp only
  rw [g3, if_pos (by rw [show (57 : Int32) = oI 57 from rfl, oI_le (by omega) (by omega) (by omega) (by omega)]; omega), nx_eq, show oI (p : Int) + 1 = oI ((p + 1 : Nat) : Int) from by rw [oI_lit, oI_add]; rfl, e, ld_336_0 h'.1, bd_some, g5, gd_t g4]
  dsimp only
  rw [g6, show (48 : Int32) = oI 48 from rfl, oI_sub]
theorem X0_digit_n {fl : Nat} {s : Mem} {T : Nat → Int} {L p : Nat} (h : TC s T L) (h2 : iI s 336 2 = p) (hp : p ≤ L) (hd : ¬ dgP T L p) : F_X0_readDigit fl 336 s = some (oI (-1), s) := by
  have l30 := h.2.1
  have b := h.2.2.2.2 p
  unfold dgP at hd
  unfold F_X0_readDigit
  by_cases hpl : p < L
  · obtain ⟨g1, g2, g3, g4⟩ := TC_g h h2 hpl
    rw [g1, g2, if_neg (by rw [oI_le (by omega) (by omega) (by omega) (by omega)]; omega), ld_336_0 h.1, bd_some]
    dsimp only
    rw [if_neg (by rw [show nI 30 = oI 30 from rfl, oI_le (by omega) (by omega) (by omega) (by omega)]; omega), bd_some, gd_t g4]
    dsimp only
    rw [g3]
    by_cases h48 : T p < 48
    · rw [if_pos (by rw [show (48 : Int32) = oI 48 from rfl, oI_lt (by omega) (by omega) (by omega) (by omega)]; omega)]
      rfl
    · rw [if_neg (by rw [show (48 : Int32) = oI 48 from rfl, oI_lt (by omega) (by omega) (by omega) (by omega)]; omega), bd_some, gd_t g4]
      dsimp only
      rw [g3, if_neg (by rw [show (57 : Int32) = oI 57 from rfl, oI_le (by omega) (by omega) (by omega) (by omega)]; omega)]
      rfl
  · rw [show gI s 336 1 = oI (L : Int) from by rw [gI_oI, h.2.2.1], show gI s 336 2 = oI (p : Int) from by rw [gI_oI, h2], if_pos (by rw [oI_le (by omega) (by omega) (by omega) (by omega)]; omega)]
    rfl
-- a number at p: its value and where it ends
def nmV (T : Nat → Int) (L p : Nat) : Int := if T p ≤ 48 ∨ ¬ dgP T L (p + 1) then T p - 48 else 10 * (T p - 48) + (T (p + 1) - 48)
def nmE (T : Nat → Int) (L p : Nat) : Nat := if T p ≤ 48 ∨ ¬ dgP T L (p + 1) then p + 1 else p + 2
theorem X0_number_y {fl : Nat} {s : Mem} {T : Nat → Int} {L p : Nat} (h : TC s T L) (h2 : iI s 336 2 = p) (hd : dgP T L p) {i : Nat} (hi : i < 5) : ∃ s', F_X0_readNumber fl 336 (oI i) s = some (1, s') ∧ FG s s' (fun k j => k = 336 ∧ j = 2 ∨ k = 338 ∧ j = i) ∧ iI s' 336 2 = nmE T L p ∧ iI s' 338 i = nmV T L p := by
  obtain ⟨s1, e1, F1, y1⟩ := X0_digit_y (fl := fl) h h2 hd
  have h' : TC s1 T L := TC_FG F1 (by omega) h
  obtain ⟨hp, d1, d2⟩ := hd
  have ti : (oI (i : Int)).toNatClampNeg = i := by rw [oI_nat (by omega) (by omega)]; rfl
  have ri : inR (oI (i : Int)) 5 := (oI_inR (by omega) (by omega)).mpr (by omega)
  have one : nmE T L p = p + 1 → nmV T L p = T p - 48 → ∃ s', B_X0_readNumber_23 fl 336 (oI i) (oI (T p - 48)) (oI (-1)) s1 = some (1, s') ∧ FG s s' (fun k j => k = 336 ∧ j = 2 ∨ k = 338 ∧ j = i) ∧ iI s' 336 2 = nmE T L p ∧ iI s' 338 i = nmV T L p := fun he hv => by
    obtain ⟨s2, e2, F2, y2⟩ := stI s1 338 i (v := T p - 48) (by omega) (by omega)
    refine ⟨s2, ?_, FG_trans (FG_mono F1 (by omega)) (FG_mono F2 (by omega)), by rw [FG_I F2 (by omega), y1, he], by rw [y2, hv]⟩
    unfold B_X0_readNumber_23
    rw [ld_336_5 h'.1, bd_some, if_neg (by decide), gd_t ri, nx_eq, ti]
    dsimp only
    rw [e2]
  unfold F_X0_readNumber
  rw [e1, bd_some]
  dsimp only
  rw [if_pos (by rw [show (0 : Int32) = oI 0 from rfl, oI_le (by omega) (by omega) (by omega) (by omega)]; omega)]
  by_cases h48 : T p ≤ 48
  · rw [if_pos (by rw [show (0 : Int32) = oI 0 from rfl, oI_le (by omega) (by omega) (by omega) (by omega)]; omega), m1_o]
    exact one (if_pos (Or.inl h48)) (if_pos (Or.inl h48))
  · rw [if_neg (by rw [show (0 : Int32) = oI 0 from rfl, oI_le (by omega) (by omega) (by omega) (by omega)]; omega)]
    by_cases hd2 : dgP T L (p + 1)
    · obtain ⟨s2, e2, F2, y2⟩ := X0_digit_y (fl := fl) h' y1 hd2
      have h'' : TC s2 T L := TC_FG F2 (by omega) h'
      obtain ⟨hp', d3, d4⟩ := hd2
      obtain ⟨s3, e3, F3, y3⟩ := stI s2 338 i (v := 10 * (T p - 48) + (T (p + 1) - 48)) (by omega) (by omega)
      have nn : ¬ (T p ≤ 48 ∨ ¬ dgP T L (p + 1)) := by
        rintro (z | z)
        · exact h48 z
        · exact z ⟨hp', d3, d4⟩
      refine ⟨s3, ?_, FG_trans (FG_mono F1 (by omega)) (FG_trans (FG_mono F2 (by omega)) (FG_mono F3 (by omega))), by rw [FG_I F3 (by omega), y2]; unfold nmE; rw [if_neg nn], by rw [y3]; unfold nmV; rw [if_neg nn]⟩
      unfold B_X0_readNumber_23
      rw [e2, bd_some]
      dsimp only
      rw [ld_336_5 h''.1, bd_some, if_pos (by rw [show (0 : Int32) = oI 0 from rfl, oI_le (by omega) (by omega) (by omega) (by omega)]; omega), gd_t ri, nx_eq, ti, show (10 : Int32) = oI 10 from rfl, oI_mul, oI_add]
      dsimp only
      rw [e3]
    · rw [X0_digit_n (fl := fl) h' y1 (by omega) hd2, bd_some]
      dsimp only
      exact one (if_pos (Or.inr hd2)) (if_pos (Or.inr hd2))
theorem X0_number_n {fl : Nat} {s : Mem} {T : Nat → Int} {L p : Nat} (h : TC s T L) (h2 : iI s 336 2 = p) (hp : p ≤ L) (hd : ¬ dgP T L p) (v : Int32) : F_X0_readNumber fl 336 v s = some (0, s) := by
  unfold F_X0_readNumber
  rw [X0_digit_n (fl := fl) h h2 hp hd, bd_some]
  dsimp only
  rw [if_neg (by decide)]
