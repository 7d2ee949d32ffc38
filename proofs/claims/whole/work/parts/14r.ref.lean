def fdC (k j : Nat) : Prop := rsC k j ∨ k = 347 ∨ k = 340 ∧ j = 10
def FR (M M2 : Mem) (kd ln br : Int) (r : Int32) : Prop := (r = 1 ∧ ∃ c g k1 k2 : Nat, Bst M (ftM M kd ln br) c g k1 k2 ∧ RSt M M2 (PT M (W2 k1 k2) (D2 g k1 k2) c) c (fun i => W2 k1 k2 (i + 1))) ∨ (r = 0 ∧ ∀ c g a b : Nat, c ≤ 2 → (g : Int) < iI M 341 0 → ftM M kd ln br g → ¬ okL M c g a b)
-- the ground of the reference's search over the pitches
def RG (M M1 : Mem) (kd ln br : Int) (n : Nat) : Prop := RO M1 ∧ AG M M1 ∧ (∀ q, q < 12 → iI M1 342 q = iI M 342 q) ∧ iI M1 340 10 = gaT M (iI M 342) ∧ n ≤ 6 ∧ SO (arM M) (ftM M kd ln br) (iI M1 347) n (iI M 341 0).toNat
theorem X8_finds29 {fl : Nat} (hfl : 1000 ≤ fl) {M : Mem} (hM : MB M) {kd ln br : Int} {n c : Nat} (hc : c ≤ 2) {k20 : Nat → Int32 → Int32 → Mem → Option (Int32 × Mem)} : ∀ (m j : Nat) (M1 : Mem) (f : Nat), RG M M1 kd ln br n → j + m = n → m < f → (∀ i, i < j → ∀ g a b : Nat, iI M1 347 i = g → ¬ okL M c g a b) →
    (∃ (M2 : Mem) (g k1 k2 : Nat), B_X8_finds_29 k20 fl f 340 (oI n) (oI c) (oI j) M1 = some (1, M2) ∧ FI M1 M2 rsC ∧ (g : Int) < iI M 341 0 ∧ ftM M kd ln br g ∧ okL M c g k1 k2 ∧ (∀ g' a b : Nat, (g' : Int) < iI M 341 0 → ftM M kd ln br g' → okL M c g' a b → arM M g < arM M g' ∨ arM M g = arM M g' ∧ (g < g' ∨ g = g' ∧ (k1 < a ∨ k1 = a ∧ k2 ≤ b))) ∧ RSt M M2 (PT M (W2 k1 k2) (D2 g k1 k2) c) c (fun i => W2 k1 k2 (i + 1))) ∨
    (∃ M2, B_X8_finds_29 k20 fl f 340 (oI n) (oI c) (oI j) M1 = k20 340 (oI n) (oI c + 1) M2 ∧ FI M1 M2 rsC ∧ RG M M2 kd ln br n ∧ ∀ g a b : Nat, (g : Int) < iI M 341 0 → ftM M kd ln br g → ¬ okL M c g a b) := by
  have bn := VRn hM.1
  unfold VN at bn
  intro m
  induction m with
  | zero =>
    intro j M1 f hG h hf hno
    obtain ⟨f, rfl⟩ : ∃ f', f = f' + 1 := ⟨f - 1, by omega⟩
    have n6 := hG.2.2.2.2.1
    refine Or.inr ⟨M1, ?_, FI_refl _ _, hG, fun g a b hg ht ho => ?_⟩
    · unfold B_X8_finds_29
      rw [if_pos (by rw [oI_le (by omega) (by omega) (by omega) (by omega)]; omega)]
    · obtain ⟨i, i1, i2⟩ := hG.2.2.2.2.2.2.1 g (by omega) ht
      exact hno i (by omega) g a b i2 ho
  | succ m ih =>
    intro j M1 f hG h hf hno
    obtain ⟨f, rfl⟩ : ∃ f', f = f' + 1 := ⟨f - 1, by omega⟩
    obtain ⟨r1, r2, r3, r4, n6, hSO⟩ := hG
    obtain ⟨g, g1, g2, g3⟩ := hSO.1 j (by omega)
    have tj : gI M1 347 (oI (j : Int)).toNatClampNeg = oI (g : Int) := by rw [oI_nat (by omega) (by omega), Int.toNat_natCast, gI_oI, g1]
    obtain ⟨M2, e2⟩ : ∃ M2, pI M1 342 12 (oI (g : Int)) = M2 := ⟨_, rfl⟩
    have F2 : FI M1 M2 (fun k j => k = 342 ∧ j = 12) := by rw [← e2]; exact FI_p M1 342 12 _ ⟨rfl, rfl⟩
    have y2 : iI M2 342 12 = g := by rw [← e2]; exact iI_pe (by omega) (by omega)
    obtain ⟨M3, e3⟩ : ∃ M3, pI M2 340 11 0 = M3 := ⟨_, rfl⟩
    have F3 : FI M2 M3 (fun k j => k = 340 ∧ j = 11) := by rw [← e3]; exact FI_p M2 340 11 _ ⟨rfl, rfl⟩
    have y3 : iI M3 340 11 = (0 : Nat) := by rw [← e3]; exact iI_pe (v := 0) (by omega) (by omega)
    have R3 : RSt M M3 (up (iI M 342) 12 g) 0 (fun _ => 0) := by
      refine ⟨FI_RO F3 (FI_RO F2 r1), AG_trans r2 (AG_trans (AG_FI F2 (by omega)) (AG_FI F3 (by omega))), fun q hq => ?_, ?_, y3, fun i hi => by omega⟩
      · rw [F3.2 _ _ (by omega)]
        by_cases hq2 : q = 12
        · subst hq2; rw [y2, up_e]
        · rw [F2.2 _ _ (by omega), up_n hq2, r3 q (by omega)]
      · rw [F3.2 _ _ (by omega), F2.2 _ _ (by omega), r4]
    obtain ⟨M4, r, x1, x2, x3⟩ := X8_plans (fl := fl) hfl hM hc (g := g) (by omega) R3
    have F4 : FI M1 M4 rsC := FI_trans (FI_mono F2 (by unfold rsC; omega)) (FI_trans (FI_mono F3 (by unfold rsC; omega)) x2)
    have step : B_X8_finds_29 k20 fl (f + 1) 340 (oI n) (oI c) (oI j) M1 = (if r = 0 then B_X8_finds_29 k20 fl f 340 (oI n) (oI c) (oI ((j + 1 : Nat) : Int)) M4 else some ((1 : Int32), M4)) := by
      conv => lhs; unfold B_X8_finds_29
      rw [if_neg (by rw [oI_le (by omega) (by omega) (by omega) (by omega)]; omega), ld_340_4 r1, bd_some, ld_340_13 r1, bd_some, gd_t ((oI_inR (by omega) (by omega)).mpr (by omega)), gd_t (by decide), nx_eq]
      dsimp only
      rw [tj, show (12 : Int32).toNatClampNeg = 12 from by decide, e2, nx_eq, e3, show F_X8_plans fl 4 340 0 (oI c) M3 = _ from x1, bd_some]
      dsimp only
      rw [show oI (j : Int) + 1 = oI ((j + 1 : Nat) : Int) from by rw [oI_lit, oI_add]; rfl]
    have n47 : ∀ i, iI M4 347 i = iI M1 347 i := fun i => F4.2 _ _ (by unfold rsC; omega)
    rcases x3 with ⟨rfl, k1, k2, z1, z2, z3⟩ | ⟨rfl, z1, z2⟩
    · rw [if_neg (by decide)] at step
      refine Or.inl ⟨M4, g, k1, k2, step, F4, by omega, g3, z1, fun g' a b hg' ht ho => ?_, z3⟩
      obtain ⟨i, i1, i2⟩ := hSO.2.1 g' (by omega) ht
      rcases Nat.lt_trichotomy i j with hij | hij | hij
      · exact absurd ho (hno i hij g' a b i2)
      · subst hij
        have : g' = g := by omega
        subst this
        have := z2 a b ho
        omega
      · have := hSO.2.2 j i hij i1 g g' g1 i2
        omega
    · rw [if_pos rfl] at step
      have G4 : RG M M4 kd ln br n := by
        obtain ⟨q1, q2, q3, q4, q5, q6⟩ := z2
        refine ⟨q1, q2, fun q hq => by rw [q3 q (by omega), up_n (by omega)], q4, n6, ?_⟩
        rw [show iI M4 347 = iI M1 347 from funext n47]
        exact hSO
      rcases ih (j + 1) M4 f G4 (by omega) (by omega) (fun i hi g' a b e' ho => by
        rw [n47] at e'
        by_cases hij : i = j
        · subst hij
          have : g' = g := by omega
          subst this
          exact z1 a b ho
        · exact hno i (by omega) g' a b e' ho) with ⟨M5, g', k1, k2, w1, w2, w3⟩ | ⟨M5, w1, w2, w3⟩
      · exact Or.inl ⟨M5, g', k1, k2, step.trans w1, FI_trans F4 w2, w3⟩
      · exact Or.inr ⟨M5, step.trans w1, FI_trans F4 w2, w3⟩
theorem X8_finds20 {fl : Nat} (hfl : 1000 ≤ fl) {M : Mem} (hM : MB M) {kd ln br : Int} {n : Nat} : ∀ (m c : Nat) (M1 : Mem) (f : Nat), c + m = 3 → m < f → RG M M1 kd ln br n → (∀ c' g a b : Nat, c' < c → (g : Int) < iI M 341 0 → ftM M kd ln br g → ¬ okL M c' g a b) →
    ∃ M2 r, B_X8_finds_20 fl f 340 (oI n) (oI c) M1 = some (r, M2) ∧ FI M1 M2 rsC ∧ FR M M2 kd ln br r := by
  intro m
  induction m with
  | zero =>
    intro c M1 f h hf hG hno
    obtain ⟨f, rfl⟩ : ∃ f', f = f' + 1 := ⟨f - 1, by omega⟩
    refine ⟨pI M1 342 12 (-1), 0, ?_, FI_p M1 342 12 _ (by unfold rsC; omega), Or.inr ⟨rfl, fun c' g a b hc' hg ht ho => hno c' g a b (by omega) hg ht ho⟩⟩
    unfold B_X8_finds_20
    rw [if_pos (by rw [show (3 : Int32) = oI 3 from rfl, oI_le (by omega) (by omega) (by omega) (by omega)]; omega), ld_340_4 hG.1, bd_some, gd_t (by decide), nx_eq]
    rfl
  | succ m ih =>
    intro c M1 f h hf hG hno
    obtain ⟨f, rfl⟩ : ∃ f', f = f' + 1 := ⟨f - 1, by omega⟩
    have n6 := hG.2.2.2.2.1
    have step : B_X8_finds_20 fl (f + 1) 340 (oI n) (oI c) M1 = B_X8_finds_29 (B_X8_finds_20 fl f) fl fl 340 (oI n) (oI c) (oI ((0 : Nat) : Int)) M1 := by
      conv => lhs; unfold B_X8_finds_20
      rw [if_neg (by rw [show (3 : Int32) = oI 3 from rfl, oI_le (by omega) (by omega) (by omega) (by omega)]; omega)]
      rfl
    rcases X8_finds29 (fl := fl) hfl hM (c := c) (n := n) (by omega) (k20 := B_X8_finds_20 fl f) n 0 M1 fl hG (by omega) (by omega) (fun i hi => by omega) with ⟨M2, g, k1, k2, x1, x2, x3, x4, x5, x6, x7⟩ | ⟨M2, x1, x2, x3, x4⟩
    · refine ⟨M2, 1, step.trans x1, x2, Or.inl ⟨rfl, c, g, k1, k2, ⟨by omega, x3, x4, x5, fun c' g' a b hc' hg' ht ho => ?_⟩, x7⟩⟩
      by_cases hcc : c' < c
      · exact absurd ho (hno c' g' a b hcc hg' ht)
      · by_cases he : c' = c
        · subst he
          have := x6 g' a b hg' ht ho
          omega
        · omega
    · rw [show oI (c : Int) + 1 = oI ((c + 1 : Nat) : Int) from by rw [oI_lit, oI_add]; rfl] at x1
      obtain ⟨M3, r, z1, z2, z3⟩ := ih (c + 1) M2 f (by omega) (by omega) x3 (fun c' g a b hc' hg ht ho => by
        by_cases he : c' = c
        · subst he
          exact x4 g a b hg ht ho
        · exact hno c' g a b (by omega) hg ht ho)
      exact ⟨M3, r, (step.trans x1).trans z1, FI_trans x2 z2, z3⟩
theorem X8_finds {fl : Nat} (hfl : 1000 ≤ fl) {M : Mem} (hs : RO M) (hM : MB M) {kd ln br : Int} (b1 : -2147483648 ≤ kd) (b2 : kd < 2147483648) (b3 : -2147483648 ≤ ln) (b4 : ln < 2147483648) (b5 : -2147483648 ≤ br) (b6 : br < 2147483648) :
    ∃ M2 r, F_X8_finds fl 340 (oI kd) (oI ln) (oI br) M = some (r, M2) ∧ FI M M2 fdC ∧ FR M M2 kd ln br r := by
  have bn := VRn hM.1
  unfold VN at bn
  have ga := X8_gapsOfAll (fl := fl) hfl hs (by omega) (by omega) (by omega) (by omega)
  have gb := gA_b (s := M) (by omega)
  obtain ⟨M1, e1⟩ : ∃ M1, pI M 340 10 (oI (gA M)) = M1 := ⟨_, rfl⟩
  have F1 : FI M M1 (fun k j => k = 340 ∧ j = 10) := by rw [← e1]; exact FI_p M 340 10 _ ⟨rfl, rfl⟩
  have y1 : iI M1 340 10 = gaT M (iI M 342) := by rw [← e1, ← gA_T]; exact iI_pe (by omega) (by omega)
  have r1 := FI_RO F1 hs
  have a1 : AG M M1 := AG_FI F1 (by omega)
  obtain ⟨M2, n, x1, x2, x3, x4⟩ := X8_fit6 (fl := fl) hfl hM b1 b2 b3 b4 b5 b6 (iI M 341 0).toNat 0 0 M1 fl (by omega) (by omega) (by omega) r1 a1 ⟨fun j h => by omega, fun p h => by omega, fun j k h1 h2 => by omega⟩
  rw [Nat.zero_add] at x3 x4
  obtain ⟨M3, r, z1, z2, z3⟩ := X8_finds20 (fl := fl) hfl hM (kd := kd) (ln := ln) (br := br) (n := n) 3 0 M2 fl rfl (by omega) ⟨FI_RO x2 r1, AG_trans a1 (AG_FI x2 (by omega)), fun q hq => by rw [x2.2 _ _ (by omega), F1.2 _ _ (by omega)], by rw [x2.2 _ _ (by omega), y1], by omega, x4⟩ (fun c' g a b h => by omega)
  refine ⟨M3, r, ?_, FI_trans (FI_mono F1 (by unfold fdC; omega)) (FI_trans (FI_mono x2 (by unfold fdC; omega)) (FI_mono z2 (fun _ _ z => Or.inl z))), z3⟩
  unfold F_X8_finds
  rw [ga, bd_some]
  dsimp only
  rw [nx_eq, e1, show F_X8_fitting fl 340 (oI kd) (oI ln) (oI br) M1 = _ from x1, bd_some]
  exact z1
