theorem X8_copiesL {fl : Nat} {a b : Nat} (ha : a ≤ 9) (hb : b ≤ 9) (hab : a ≠ b) : ∀ (m i : Nat) (s : Mem) (k : Nat), i + m = 170 → m < k → RO s →
    ∃ s', B_X8_copies_2 fl k 340 (oI a) (oI b) (oI i) s = some s' ∧ FI s s' (fun k j => k = 341 ∧ 170 * b + i ≤ j ∧ j < 170 * b + 170) ∧ ∀ x, i ≤ x → x < 170 → iI s' 341 (170 * b + x) = iI s 341 (170 * a + x) := by
  intro m
  induction m with
  | zero =>
    intro i s k h hk hs
    obtain ⟨k, rfl⟩ : ∃ k', k = k' + 1 := ⟨k - 1, by omega⟩
    refine ⟨s, ?_, FI_refl _ _, fun q h1 h2 => by omega⟩
    rw [B_X8_copies_2]
    dsimp only
    simp (disch := omega) only [bd_some, nx_eq, xb_r, xb_l, xc_r, xc_l, oI_lit, oI_nI, oI_add, oI_sub, oI_mul, oI_neg, gI_oI, ldA_I, ldA_L, ldO_I, ldO_L, oB_z, oB_o, gd_oB, lgc0n, oI_litN, ← Int.natCast_add, ← Int.natCast_mul, Int.toNat_natCast, if_true, if_false, oI_le, oI_lt, oI_eq, oI_nat, oI_inR, gd_t]
    rw [if_pos (by omega)]
  | succ m ih =>
    intro i s k h hk hs
    obtain ⟨k, rfl⟩ : ∃ k', k = k' + 1 := ⟨k - 1, by omega⟩
    have hF : FI s (pI s 341 (170 * b + i) (oI (iI s 341 (170 * a + i)))) (fun k j => k = 341 ∧ j = 170 * b + i) := FI_p _ _ _ _ ⟨rfl, rfl⟩
    obtain ⟨s', g1, g2, g3⟩ := ih (i + 1) (pI s 341 (170 * b + i) (oI (iI s 341 (170 * a + i)))) k (by omega) (by omega) hs
    refine ⟨s', ?_, FI_trans (FI_mono hF (by intro k j h; omega)) (FI_mono g2 (by intro k j h; omega)), ?_⟩
    · rw [B_X8_copies_2]
      dsimp only
      simp (disch := omega) only [bd_some, nx_eq, xb_r, xb_l, xc_r, xc_l, oI_lit, oI_nI, oI_add, oI_sub, oI_mul, oI_neg, gI_oI, ldA_I, ldA_L, ldO_I, ldO_L, oB_z, oB_o, gd_oB, lgc0n, oI_litN, ← Int.natCast_add, ← Int.natCast_mul, Int.toNat_natCast, if_true, if_false, oI_le, oI_lt, oI_eq, oI_nat, oI_inR, gd_t, ld_340_1 hs]
      rw [if_neg (by omega)]
      exact g1
    · intro x h1 h2
      by_cases hx : x = i
      · subst hx
        rw [g2.2 341 (170 * b + x) (by omega), iI_pe (iI_lo _ _ _) (iI_hi _ _ _)]
      · rw [g3 x (by omega) h2, hF.2 341 (170 * a + x) (by omega)]
theorem X8_copies {fl : Nat} (hfl : 1000 ≤ fl) {s : Mem} (hs : RO s) {a b : Nat} (ha : a ≤ 9) (hb : b ≤ 9) (hab : a ≠ b) :
    ∃ s', F_X8_copies fl 340 (oI a) (oI b) s = some s' ∧ FI s s' (fun k j => k = 341 ∧ 170 * b ≤ j ∧ j < 170 * b + 170) ∧ ∀ x, x < 170 → iI s' 341 (170 * b + x) = iI s 341 (170 * a + x) := by
  obtain ⟨s', g1, g2, g3⟩ := X8_copiesL (fl := fl) ha hb hab 170 0 s fl rfl (by omega) hs
  exact ⟨s', g1, FI_mono g2 (by intro k j h; omega), fun x h => g3 x (Nat.zero_le _) h⟩
theorem X8_keeps41 {fl : Nat} (hfl : 1000 ≤ fl) {s : Mem} (hs : RO s) {c : Nat} (hc : iI s 340 2 = c) (hc2 : c < 8) :
    ∃ s', B_X8_keeps_41 fl 340 s = some s' ∧ FI s s' (fun k j => k = 340 ∧ j = 2 ∨ k = 341 ∧ 170 * (c + 1) ≤ j ∧ j < 170 * (c + 1) + 170) ∧ iI s' 340 2 = (c + 1 : Nat) ∧ ∀ x, x < 170 → iI s' 341 (170 * (c + 1) + x) = iI s 341 x := by
  have hF : FI s (pI s 340 2 (oI ((c + 1 : Nat) : Int))) (fun k j => k = 340 ∧ j = 2) := FI_p _ _ _ _ ⟨rfl, rfl⟩
  obtain ⟨s', g1, g2, g3⟩ := X8_copies (fl := fl) hfl (s := pI s 340 2 (oI ((c + 1 : Nat) : Int))) hs (a := 0) (b := c + 1) (by omega) (by omega) (by omega)
  refine ⟨s', ?_, FI_trans (FI_mono hF (by intro k j h; omega)) (FI_mono g2 (by intro k j h; omega)), ?_, ?_⟩
  · unfold B_X8_keeps_41
    have e : iI (pI s 340 2 (oI ((c + 1 : Nat) : Int))) 340 2 = ((c + 1 : Nat) : Int) := iI_pe (by omega) (by omega)
    simp (disch := omega) only [bd_some, nx_eq, xb_r, xb_l, xc_r, xc_l, oI_lit, oI_nI, oI_add, oI_sub, oI_mul, oI_neg, gI_oI, ldA_I, ldA_L, ldO_I, ldO_L, oB_z, oB_o, gd_oB, lgc0n, oI_litN, ← Int.natCast_add, ← Int.natCast_mul, Int.toNat_natCast, if_true, if_false, oI_le, oI_lt, oI_eq, oI_nat, oI_inR, gd_t, hc, e]
    rw [g1]
    rfl
  · rw [g2.2 340 2 (by omega), iI_pe (by omega) (by omega)]
  · intro x hx
    rw [g3 x hx, hF.2 341 _ (by omega), Nat.mul_zero, Nat.zero_add]
theorem X8_keepsL {fl : Nat} (hfl : 1000 ≤ fl) : ∀ (m i : Nat) (s : Mem) (k : Nat), i + m = 8 → 1 ≤ i → m < k → RO s → iI s 340 2 = (8 : Nat) →
    ∃ s', B_X8_keeps_11 fl k 340 (oI i) s = some s' ∧ FI s s' (fun k j => k = 341 ∧ 170 * i ≤ j ∧ j < 1530) ∧ (∀ r, i ≤ r → r < 8 → ∀ x, x < 170 → iI s' 341 (170 * r + x) = iI s 341 (170 * (r + 1) + x)) ∧ ∀ x, x < 170 → iI s' 341 (170 * 8 + x) = iI s 341 x := by
  intro m
  induction m with
  | zero =>
    intro i s k h hi hk hs hc
    obtain ⟨k, rfl⟩ : ∃ k', k = k' + 1 := ⟨k - 1, by omega⟩
    have hF : FI s (pI s 340 2 (oI ((7 : Nat) : Int))) (fun k j => k = 340 ∧ j = 2) := FI_p _ _ _ _ ⟨rfl, rfl⟩
    obtain ⟨s', g1, g2, g3, g4⟩ := X8_keeps41 (fl := fl) hfl (s := pI s 340 2 (oI ((7 : Nat) : Int))) hs (c := 7) (iI_pe (by omega) (by omega)) (by omega)
    refine ⟨s', ?_, ⟨g2.1, fun k j hk => ?_⟩, fun r h1 h2 => by omega, fun x hx => ?_⟩
    · rw [B_X8_keeps_11]
      dsimp only
      simp (disch := omega) only [bd_some, nx_eq, xb_r, xb_l, xc_r, xc_l, oI_lit, oI_nI, oI_add, oI_sub, oI_mul, oI_neg, gI_oI, ldA_I, ldA_L, ldO_I, ldO_L, oB_z, oB_o, gd_oB, lgc0n, oI_litN, ← Int.natCast_add, ← Int.natCast_mul, Int.toNat_natCast, if_true, if_false, oI_le, oI_lt, oI_eq, oI_nat, oI_inR, gd_t, hc]
      rw [if_pos (by omega)]
      exact g1
    · by_cases hkj : k = 340 ∧ j = 2
      · obtain ⟨rfl, rfl⟩ := hkj
        rw [g3, hc]
      · rw [g2.2 k j (by omega), hF.2 k j (by omega)]
    · have := g4 x hx
      rw [hF.2 341 x (by omega)] at this
      exact this
  | succ m ih =>
    intro i s k h hi hk hs hc
    obtain ⟨k, rfl⟩ : ∃ k', k = k' + 1 := ⟨k - 1, by omega⟩
    obtain ⟨s1, g1, g2, g3⟩ := X8_copies (fl := fl) hfl (s := s) hs (a := i + 1) (b := i) (by omega) (by omega) (by omega)
    obtain ⟨s', f1, f2, f3, f4⟩ := ih (i + 1) s1 k (by omega) (by omega) (by omega) (FI_RO g2 hs) (by rw [g2.2 340 2 (by omega)]; exact hc)
    refine ⟨s', ?_, FI_trans (FI_mono g2 (by intro k j h; omega)) (FI_mono f2 (by intro k j h; omega)), ?_, ?_⟩
    · rw [B_X8_keeps_11]
      dsimp only
      simp (disch := omega) only [bd_some, nx_eq, xb_r, xb_l, xc_r, xc_l, oI_lit, oI_nI, oI_add, oI_sub, oI_mul, oI_neg, gI_oI, ldA_I, ldA_L, ldO_I, ldO_L, oB_z, oB_o, gd_oB, lgc0n, oI_litN, ← Int.natCast_add, ← Int.natCast_mul, Int.toNat_natCast, if_true, if_false, oI_le, oI_lt, oI_eq, oI_nat, oI_inR, gd_t]
      rw [if_neg (by omega), g1]
      exact f1
    · intro r h1 h2 x hx
      by_cases hr : r = i
      · subst hr
        rw [f2.2 341 (170 * r + x) (by omega), g3 x hx]
      · rw [f3 r (by omega) h2 x hx, g2.2 341 _ (by omega)]
    · intro x hx
      rw [f4 x hx, g2.2 341 x (by omega)]
-- the rows behind a change that is kept: n of them
def KP (s s' : Mem) (c : Nat) : Prop := FI s s' (fun k j => k = 340 ∧ j = 2 ∨ k = 341 ∧ 170 ≤ j ∧ j < 1530) ∧ iI s' 340 2 = ((if c = 8 then 8 else c + 1 : Nat) : Int) ∧
  (∀ r, 1 ≤ r → r < (if c = 8 then 8 else c + 1) → ∀ x, x < 170 → iI s' 341 (170 * r + x) = iI s 341 (170 * (if c = 8 then r + 1 else r) + x)) ∧ ∀ x, x < 170 → iI s' 341 (170 * (if c = 8 then 8 else c + 1) + x) = iI s 341 x
theorem X8_keeps {fl : Nat} (hfl : 1000 ≤ fl) {s : Mem} (hs : RO s) {c : Nat} (hc : iI s 340 2 = c) (hc2 : c ≤ 8) : ∃ s', F_X8_keeps fl 340 s = some s' ∧ KP s s' c := by
  unfold F_X8_keeps KP
  by_cases h8 : c = 8
  · subst h8
    obtain ⟨s', g1, g2, g3, g4⟩ := X8_keepsL (fl := fl) hfl 7 1 s fl rfl (by omega) (by omega) hs hc
    refine ⟨s', ?_, FI_mono g2 (by intro k j h; omega), ?_, ?_, ?_⟩
    · simp (disch := omega) only [bd_some, nx_eq, xb_r, xb_l, xc_r, xc_l, oI_lit, oI_nI, oI_add, oI_sub, oI_mul, oI_neg, gI_oI, ldA_I, ldA_L, ldO_I, ldO_L, oB_z, oB_o, gd_oB, lgc0n, oI_litN, ← Int.natCast_add, ← Int.natCast_mul, Int.toNat_natCast, if_true, if_false, oI_le, oI_lt, oI_eq, oI_nat, oI_inR, gd_t, hc]
      exact g1
    · rw [g2.2 340 2 (by omega), hc]
      rfl
    · intro r h1 h2 x hx
      exact g3 r h1 (by simpa using h2) x hx
    · exact g4
  · obtain ⟨s', g1, g2, g3, g4⟩ := X8_keeps41 (fl := fl) hfl hs hc (by omega)
    rw [if_neg h8]
    refine ⟨s', ?_, FI_mono g2 (by intro k j h; omega), g3, ?_, g4⟩
    · simp (disch := omega) only [bd_some, nx_eq, xb_r, xb_l, xc_r, xc_l, oI_lit, oI_nI, oI_add, oI_sub, oI_mul, oI_neg, gI_oI, ldA_I, ldA_L, ldO_I, ldO_L, oB_z, oB_o, gd_oB, lgc0n, oI_litN, ← Int.natCast_add, ← Int.natCast_mul, Int.toNat_natCast, if_true, if_false, oI_le, oI_lt, oI_eq, oI_nat, oI_inR, gd_t, hc]
      rw [if_neg (by omega)]
      exact g1
    · intro r h1 h2 x hx
      rw [if_neg h8, g2.2 341 _ (by omega)]
