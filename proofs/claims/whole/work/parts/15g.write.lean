theorem X8_bookEnd {fl f : Nat} {s : Mem} (hs : RO s) {x g c : Nat} (hx : iI s 341 1 = x) (hx12 : x < 12) (h11 : iI s 340 11 = c) (hc : c ≤ 2) (hg : iI s 342 12 = g) (hg6 : g < 6) {R kd ln br pw ff n : Int} (hR : iI s 341 (8 + 5 * g + 4) = R) (p0 : 0 ≤ (R + pw) * n) (p1 : (R + pw) * n ≤ 2000)
    (a1 : 0 ≤ kd) (a2 : kd ≤ 100) (b1 : 0 ≤ ln) (b2 : ln ≤ 100) (c1 : 0 ≤ br) (c2 : br ≤ 100) (d1 : 0 ≤ pw) (d2 : pw ≤ 100) (e1 : 0 ≤ ff) (e2 : ff ≤ 100) (f1 : 0 ≤ n) (f2 : n ≤ 100) :
    ∃ s', B_X8_book_248 fl (f + 1) 340 (oI kd) (oI ln) (oI br) (oI pw) (oI ff) (oI n) (oI c) s = some (oI x, s') ∧ FI s s' (fun k j => k = 341 ∧ (j = 1 ∨ 50 + 10 * x ≤ j ∧ j < 50 + 10 * x + 10)) ∧ iI s' 341 1 = ((x + 1 : Nat) : Int) ∧ iI s' 341 (50 + 10 * x + 0) = kd ∧ iI s' 341 (50 + 10 * x + 1) = ln ∧ iI s' 341 (50 + 10 * x + 2) = br ∧ iI s' 341 (50 + 10 * x + 3) = pw ∧ iI s' 341 (50 + 10 * x + 4) = ff ∧ iI s' 341 (50 + 10 * x + 5) = n ∧ iI s' 341 (50 + 10 * x + 6) = g ∧ iI s' 341 (50 + 10 * x + 7) = (R + pw) * n ∧ iI s' 341 (50 + 10 * x + 8) = 1 ∧ iI s' 341 (50 + 10 * x + 9) = 0 := by
  obtain ⟨n0, z0, G0, y0⟩ := stF s 341 1 (v := ((x + 1 : Nat) : Int)) (by omega) (by omega)
  obtain ⟨n1, z1, G1, y1⟩ := stF n0 341 (50 + 10 * x + 0) (v := kd) (by omega) (by omega)
  obtain ⟨n2, z2, G2, y2⟩ := stF n1 341 (50 + 10 * x + 1) (v := ln) (by omega) (by omega)
  obtain ⟨n3, z3, G3, y3⟩ := stF n2 341 (50 + 10 * x + 2) (v := br) (by omega) (by omega)
  obtain ⟨n4, z4, G4, y4⟩ := stF n3 341 (50 + 10 * x + 3) (v := pw) (by omega) (by omega)
  obtain ⟨n5, z5, G5, y5⟩ := stF n4 341 (50 + 10 * x + 4) (v := ff) (by omega) (by omega)
  obtain ⟨n6, z6, G6, y6⟩ := stF n5 341 (50 + 10 * x + 5) (v := n) (by omega) (by omega)
  obtain ⟨n7, z7, G7, y7⟩ := stF n6 341 (50 + 10 * x + 6) (v := (g : Int)) (by omega) (by omega)
  obtain ⟨n8, z8, G8, y8⟩ := stF n7 341 (50 + 10 * x + 7) (v := (R + pw) * n) (by omega) (by omega)
  obtain ⟨n9, z9, G9, y9⟩ := stF n8 341 (50 + 10 * x + 8) (v := 1) (by omega) (by omega)
  obtain ⟨n10, z10, G10, y10⟩ := stF n9 341 (50 + 10 * x + 9) (v := 0) (by omega) (by omega)
  have r0 := FI_RO G0 hs
  have r1 := FI_RO G1 r0
  have r2 := FI_RO G2 r1
  have r3 := FI_RO G3 r2
  have r4 := FI_RO G4 r3
  have r5 := FI_RO G5 r4
  have r6 := FI_RO G6 r5
  have r7 := FI_RO G7 r6
  have r8 := FI_RO G8 r7
  have r9 := FI_RO G9 r8
  have l1 : F_X8_lays fl 340 (oI x) (0 : Int32) (oI kd) n0 = some n1 := (X8_lays r0 (q := x) (f := 0) (by omega) (by omega) _).trans (congrArg some z1)
  have l2 : F_X8_lays fl 340 (oI x) (1 : Int32) (oI ln) n1 = some n2 := (X8_lays r1 (q := x) (f := 1) (by omega) (by omega) _).trans (congrArg some z2)
  have l3 : F_X8_lays fl 340 (oI x) (2 : Int32) (oI br) n2 = some n3 := (X8_lays r2 (q := x) (f := 2) (by omega) (by omega) _).trans (congrArg some z3)
  have l4 : F_X8_lays fl 340 (oI x) (3 : Int32) (oI pw) n3 = some n4 := (X8_lays r3 (q := x) (f := 3) (by omega) (by omega) _).trans (congrArg some z4)
  have l5 : F_X8_lays fl 340 (oI x) (4 : Int32) (oI ff) n4 = some n5 := (X8_lays r4 (q := x) (f := 4) (by omega) (by omega) _).trans (congrArg some z5)
  have l6 : F_X8_lays fl 340 (oI x) (5 : Int32) (oI n) n5 = some n6 := (X8_lays r5 (q := x) (f := 5) (by omega) (by omega) _).trans (congrArg some z6)
  have l7 : F_X8_lays fl 340 (oI x) (6 : Int32) (oI (g : Int)) n6 = some n7 := (X8_lays r6 (q := x) (f := 6) (by omega) (by omega) _).trans (congrArg some z7)
  have l8 : F_X8_lays fl 340 (oI x) (7 : Int32) (oI ((R + pw) * n)) n7 = some n8 := (X8_lays r7 (q := x) (f := 7) (by omega) (by omega) _).trans (congrArg some z8)
  have l9 : F_X8_lays fl 340 (oI x) (8 : Int32) (1 : Int32) n8 = some n9 := (X8_lays r8 (q := x) (f := 8) (by omega) (by omega) _).trans (congrArg some z9)
  have l10 : F_X8_lays fl 340 (oI x) (9 : Int32) (0 : Int32) n9 = some n10 := (X8_lays r9 (q := x) (f := 9) (by omega) (by omega) _).trans (congrArg some z10)
  have g6 : gI n6 342 (12 : Int32).toNatClampNeg = oI (g : Int) := by
    rw [gI_oI, show (12 : Int32).toNatClampNeg = 12 from by decide, G6.2 _ _ (by omega), G5.2 _ _ (by omega), G4.2 _ _ (by omega), G3.2 _ _ (by omega), G2.2 _ _ (by omega), G1.2 _ _ (by omega), G0.2 _ _ (by omega), hg]
  have g7 : gI n7 342 (12 : Int32).toNatClampNeg = oI (g : Int) := by
    rw [gI_oI, show (12 : Int32).toNatClampNeg = 12 from by decide, G7.2 _ _ (by omega), G6.2 _ _ (by omega), G5.2 _ _ (by omega), G4.2 _ _ (by omega), G3.2 _ _ (by omega), G2.2 _ _ (by omega), G1.2 _ _ (by omega), G0.2 _ _ (by omega), hg]
  have op : F_X8_ofPitch fl 340 (oI (g : Int)) (4 : Int32) n7 = some (oI R) := by
    have := X8_ofPitch (fl := fl) (p := g) (f := 4) r7 hg6 (by decide)
    rw [G7.2 _ _ (by omega), G6.2 _ _ (by omega), G5.2 _ _ (by omega), G4.2 _ _ (by omega), G3.2 _ _ (by omega), G2.2 _ _ (by omega), G1.2 _ _ (by omega), G0.2 _ _ (by omega), hR] at this
    exact this
  have gx : gI s 341 (1 : Int32).toNatClampNeg = oI (x : Int) := by rw [gI_oI]; exact congrArg oI hx
  refine ⟨n10, ?_, FI_trans (FI_mono G0 (by omega)) (FI_trans (FI_mono G1 (by omega)) (FI_trans (FI_mono G2 (by omega)) (FI_trans (FI_mono G3 (by omega)) (FI_trans (FI_mono G4 (by omega)) (FI_trans (FI_mono G5 (by omega)) (FI_trans (FI_mono G6 (by omega)) (FI_trans (FI_mono G7 (by omega)) (FI_trans (FI_mono G8 (by omega)) (FI_trans (FI_mono G9 (by omega)) (FI_mono G10 (by omega))))))))))), ?_, ?_, ?_, ?_, ?_, ?_, ?_, ?_, ?_, ?_, y10⟩
  · unfold B_X8_book_248
    rw [show gI s 340 11 = oI (c : Int) from by rw [gI_oI, h11], if_pos (by rw [oI_le (by omega) (by omega) (by omega) (by omega)]; omega), ld_340_1 hs, bd_some, gd_t (by decide), bd_some, gd_t (by decide), gd_t (by decide), nx_eq]
    dsimp only
    rw [gx, show oI (x : Int) + 1 = oI ((x + 1 : Nat) : Int) from by rw [oI_lit, oI_add]; rfl, show (1 : Int32).toNatClampNeg = 1 from by decide, z0, l1, bd_some, l2, bd_some, l3, bd_some, l4, bd_some, l5, bd_some, l6, bd_some, ld_340_4 r6, bd_some, gd_t (by decide)]
    dsimp only
    rw [g6, l7, bd_some, ld_340_4 r7, bd_some, gd_t (by decide)]
    dsimp only
    rw [g7, op, bd_some, oI_add, oI_mul, l8, bd_some, l9, bd_some, l10, bd_some]
  · rw [G10.2 _ _ (by omega), G9.2 _ _ (by omega), G8.2 _ _ (by omega), G7.2 _ _ (by omega), G6.2 _ _ (by omega), G5.2 _ _ (by omega), G4.2 _ _ (by omega), G3.2 _ _ (by omega), G2.2 _ _ (by omega), G1.2 _ _ (by omega)]; exact y0
  · rw [G10.2 _ _ (by omega), G9.2 _ _ (by omega), G8.2 _ _ (by omega), G7.2 _ _ (by omega), G6.2 _ _ (by omega), G5.2 _ _ (by omega), G4.2 _ _ (by omega), G3.2 _ _ (by omega), G2.2 _ _ (by omega)]; exact y1
  · rw [G10.2 _ _ (by omega), G9.2 _ _ (by omega), G8.2 _ _ (by omega), G7.2 _ _ (by omega), G6.2 _ _ (by omega), G5.2 _ _ (by omega), G4.2 _ _ (by omega), G3.2 _ _ (by omega)]; exact y2
  · rw [G10.2 _ _ (by omega), G9.2 _ _ (by omega), G8.2 _ _ (by omega), G7.2 _ _ (by omega), G6.2 _ _ (by omega), G5.2 _ _ (by omega), G4.2 _ _ (by omega)]; exact y3
  · rw [G10.2 _ _ (by omega), G9.2 _ _ (by omega), G8.2 _ _ (by omega), G7.2 _ _ (by omega), G6.2 _ _ (by omega), G5.2 _ _ (by omega)]; exact y4
  · rw [G10.2 _ _ (by omega), G9.2 _ _ (by omega), G8.2 _ _ (by omega), G7.2 _ _ (by omega), G6.2 _ _ (by omega)]; exact y5
  · rw [G10.2 _ _ (by omega), G9.2 _ _ (by omega), G8.2 _ _ (by omega), G7.2 _ _ (by omega)]; exact y6
  · rw [G10.2 _ _ (by omega), G9.2 _ _ (by omega), G8.2 _ _ (by omega)]; exact y7
  · rw [G10.2 _ _ (by omega), G9.2 _ _ (by omega)]; exact y8
  · rw [G10.2 _ _ (by omega)]; exact y9
-- the moves of a booking, written down and laid
theorem X8_bookL {fl : Nat} {W : Nat → Nat} {o : Nat → Int} {T : Nat → Int} {c : Nat} (hc : c ≤ 2) (hW : ∀ i j, 1 ≤ i → i ≤ c → 1 ≤ j → j ≤ c → W i = W j → i = j) (hW12 : ∀ i, 1 ≤ i → i ≤ c → W i < 12) {v1 v2 v3 v4 v5 v6 : Int32} : ∀ (m i : Nat) (s : Mem) (f : Nat), i + m = c → RO s → iI s 340 11 = c → (∀ j, j < c → iI s 346 j = W (j + 1)) → (∀ q, q ≤ 12 → iI s 342 q = T q) → (∀ j, i ≤ j → j < c → iI s 341 (50 + 10 * W (j + 1) + 6) = o (j + 1)) →
    ∃ s', B_X8_book_248 fl (f + m) 340 v1 v2 v3 v4 v5 v6 (oI i) s = B_X8_book_248 fl f 340 v1 v2 v3 v4 v5 v6 (oI c) s' ∧ FI s s' (fun k j => k = 348 ∨ k = 341 ∧ ∃ r, i ≤ r ∧ r < c ∧ j = 50 + 10 * W (r + 1) + 6) ∧ (∀ k, k < 3 * i → iI s' 348 k = iI s 348 k) ∧ ∀ j, i ≤ j → j < c → iI s' 348 (3 * j) = W (j + 1) ∧ iI s' 348 (3 * j + 1) = o (j + 1) ∧ iI s' 348 (3 * j + 2) = T (W (j + 1)) ∧ iI s' 341 (50 + 10 * W (j + 1) + 6) = T (W (j + 1)) := by
  intro m
  induction m with
  | zero =>
    intro i s f h hs h11 h46 h42 ho
    have : i = c := by omega
    subst this
    exact ⟨s, rfl, FI_refl _ _, fun k _ => rfl, fun j h1 h2 => by omega⟩
  | succ m ih =>
    intro i s f h hs h11 h46 h42 ho
    have w12 := hW12 (i + 1) (by omega) (by omega)
    have lo := iI_lo s 342 (W (i + 1))
    have hi := iI_hi s 342 (W (i + 1))
    have lo2 := iI_lo s 341 (50 + 10 * W (i + 1) + 6)
    have hi2 := iI_hi s 341 (50 + 10 * W (i + 1) + 6)
    rw [h42 _ (by omega)] at lo hi
    rw [ho i (by omega) (by omega)] at lo2 hi2
    have ti : (oI (i : Int)).toNatClampNeg = i := by rw [oI_nat (by omega) (by omega)]; rfl
    have tw : (oI (W (i + 1) : Int)).toNatClampNeg = W (i + 1) := by rw [oI_nat (by omega) (by omega)]; rfl
    have gW : gI s 346 (oI (i : Int)).toNatClampNeg = oI (W (i + 1) : Int) := by rw [ti, gI_oI, h46 i (by omega)]
    have i0 : (3 : Int32) * oI (i : Int) = oI ((3 * i : Nat) : Int) := by rw [show (3 : Int32) = oI 3 from rfl, oI_mul]; congr 1
    have i1 : oI ((3 * i : Nat) : Int) + 1 = oI ((3 * i + 1 : Nat) : Int) := by rw [oI_lit, oI_add]; rfl
    have i2 : oI ((3 * i : Nat) : Int) + 2 = oI ((3 * i + 2 : Nat) : Int) := by rw [oI_lit, oI_add]; rfl
    have t0 : (oI ((3 * i : Nat) : Int)).toNatClampNeg = 3 * i := by rw [oI_nat (by omega) (by omega)]; rfl
    have t1 : (oI ((3 * i + 1 : Nat) : Int)).toNatClampNeg = 3 * i + 1 := by rw [oI_nat (by omega) (by omega)]; rfl
    have t2 : (oI ((3 * i + 2 : Nat) : Int)).toNatClampNeg = 3 * i + 2 := by rw [oI_nat (by omega) (by omega)]; rfl
    obtain ⟨n1, z1, G1, y1⟩ := stF s 348 (3 * i) (v := (W (i + 1) : Int)) (by omega) (by omega)
    obtain ⟨n2, z2, G2, y2⟩ := stF n1 348 (3 * i + 1) (v := o (i + 1)) (by omega) (by omega)
    obtain ⟨n3, z3, G3, y3⟩ := stF n2 348 (3 * i + 2) (v := T (W (i + 1))) (by omega) (by omega)
    obtain ⟨n4, z4, G4, y4⟩ := stF n3 341 (50 + 10 * W (i + 1) + 6) (v := T (W (i + 1))) (by omega) (by omega)
    have r1 := FI_RO G1 hs
    have r2 := FI_RO G2 r1
    have r3 := FI_RO G3 r2
    have r4 := FI_RO G4 r3
    have of : F_X8_of fl 340 (oI (W (i + 1) : Int)) (6 : Int32) n1 = some (oI (o (i + 1))) := by
      have := X8_of (fl := fl) (q := W (i + 1)) (f := 6) r1 (by omega) (by decide)
      rw [G1.2 _ _ (by omega), ho i (by omega) (by omega)] at this
      exact this
    have gT2 : gI n2 342 (oI (W (i + 1) : Int)).toNatClampNeg = oI (T (W (i + 1))) := by rw [tw, gI_oI, G2.2 _ _ (by omega), G1.2 _ _ (by omega), h42 _ (by omega)]
    have gT3 : gI n3 342 (oI (W (i + 1) : Int)).toNatClampNeg = oI (T (W (i + 1))) := by rw [tw, gI_oI, G3.2 _ _ (by omega), G2.2 _ _ (by omega), G1.2 _ _ (by omega), h42 _ (by omega)]
    have ly : F_X8_lays fl 340 (oI (W (i + 1) : Int)) (6 : Int32) (oI (T (W (i + 1)))) n3 = some n4 := (X8_lays r3 (q := W (i + 1)) (f := 6) (by omega) (by omega) _).trans (congrArg some z4)
    have G : FI s n4 (fun k j => k = 348 ∧ 3 * i ≤ j ∧ j ≤ 3 * i + 2 ∨ k = 341 ∧ j = 50 + 10 * W (i + 1) + 6) := FI_trans (FI_mono G1 (by omega)) (FI_trans (FI_mono G2 (by omega)) (FI_trans (FI_mono G3 (by omega)) (FI_mono G4 (by omega))))
    obtain ⟨s', g1, g2, g3, g4⟩ := ih (i + 1) n4 f (by omega) r4 (by rw [G.2 _ _ (by omega)]; exact h11) (fun j hj => by rw [G.2 _ _ (by omega)]; exact h46 j hj) (fun q hq => by rw [G.2 _ _ (by omega)]; exact h42 q hq) (fun j j1 j2 => by
      have : W (j + 1) ≠ W (i + 1) := fun z => by have := hW (j + 1) (i + 1) (by omega) (by omega) (by omega) (by omega) z; omega
      rw [G.2 _ _ (by omega)]; exact ho j (by omega) j2)
    refine ⟨s', ?_, FI_trans (FI_mono G (fun k j z => ?_)) (FI_mono g2 (fun k j z => ?_)), fun k hk => by rw [g3 k (by omega), G.2 _ _ (by omega)], fun j j1 j2 => ?_⟩
    · rw [← g1, show f + (m + 1) = f + m + 1 by omega]
      conv => lhs; unfold B_X8_book_248
      rw [show gI s 340 11 = oI (c : Int) from by rw [gI_oI, h11], if_neg (by rw [oI_le (by omega) (by omega) (by omega) (by omega)]; omega), ld_340_12 hs, bd_some, gd_t ((oI_inR (by omega) (by omega)).mpr (by omega)), ld_340_16 hs, bd_some, i0, i1, i2, gd_t ((oI_inR (by omega) (by omega)).mpr (by omega)), nx_eq]
      dsimp only
      rw [gW, t0, z1, ld_340_16 r1, bd_some, of, bd_some, gd_t ((oI_inR (by omega) (by omega)).mpr (by omega)), nx_eq]
      dsimp only
      rw [t1, z2, ld_340_16 r2, bd_some, ld_340_4 r2, bd_some, gd_t ((oI_inR (by omega) (by omega)).mpr (by omega)), gd_t ((oI_inR (by omega) (by omega)).mpr (by omega)), nx_eq]
      dsimp only
      rw [gT2, t2, z3, ld_340_4 r3, bd_some, gd_t ((oI_inR (by omega) (by omega)).mpr (by omega))]
      dsimp only
      rw [gT3, ly, bd_some, show oI (i : Int) + 1 = oI ((i + 1 : Nat) : Int) from by rw [oI_lit, oI_add]; rfl]
    · rcases z with z | z
      · exact Or.inl z.1
      · exact Or.inr ⟨z.1, i, Nat.le_refl _, by omega, z.2⟩
    · rcases z with z | ⟨z, r, z1, z2, z3⟩
      · exact Or.inl z
      · exact Or.inr ⟨z, r, by omega, z2, z3⟩
    · by_cases hji : j = i
      · subst hji
        refine ⟨by rw [g3 _ (by omega), G4.2 _ _ (by omega), G3.2 _ _ (by omega), G2.2 _ _ (by omega)]; exact y1, by rw [g3 _ (by omega), G4.2 _ _ (by omega), G3.2 _ _ (by omega)]; exact y2, by rw [g3 _ (by omega), G4.2 _ _ (by omega)]; exact y3, ?_⟩
        rw [g2.2 _ _ (by
          rintro (z | ⟨-, r, z1, z2, z3⟩)
          · omega
          · have := hW (j + 1) (r + 1) (by omega) (by omega) (by omega) (by omega) (by omega)
            omega)]
        exact y4
      · exact g4 j (by omega) j2
