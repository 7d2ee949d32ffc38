theorem rateC {fl : Nat} {s : Mem} (hs : RO s) {n p : Nat} (h1 : iI s 0 1 = n) (hp : p < n) (h6 : n ≤ 6) : F_X1_rateOf fl 0 (oI p) s = some (gI s (2 + p) 4) := by
  unfold F_X1_rateOf F_X1_hasPitch
  rw [if_neg (by rw [show (0 : Int32) = oI 0 from rfl, oI_lt (by omega) (by omega) (by omega) (by omega)]; omega), show gI s 0 1 = oI (n : Int) from by rw [gI_oI, h1], if_neg (by rw [oI_le (by omega) (by omega) (by omega) (by omega)]; omega), bd_some, if_neg (by decide), ld_00 hs, bd_some, gd_t ((oI_inR (by omega) (by omega)).mpr (by omega)), ldP hs (by omega), bd_some]
theorem X1_makeParty {fl : Nat} {S : Mem} (hs : RO S) {x g np : Nat} (hx : iI S 0 3 = x) (hx12 : x < 12) (hp : iI S 0 1 = np) (hg : g < np) (h6 : np ≤ 6) {R f n pw : Int} (hR : iI S (2 + g) 4 = R) (v3 : iI S 322 3 = pw) (v4 : iI S 322 4 = f) (v5 : iI S 322 5 = n) (vL : gL S 322 6 = mI f n) (v10 : iI S 322 10 = 0) (p0 : 0 ≤ (R + pw) * n) (p1 : (R + pw) * n ≤ 2000) :
    ∃ S', F_X1_makeParty fl 0 322 (oI g) S = some (oI x, S') ∧ FG S S' (fun k j => k = 9 + x ∨ k = 0 ∧ j = 3) ∧ (∀ i, i < 6 → iI S' (9 + x) i = iI S 322 i) ∧ gL S' (9 + x) 6 = mI f n ∧ iI S' (9 + x) 7 = g ∧ iI S' (9 + x) 8 = (R + pw) * n ∧ iI S' (9 + x) 9 = iI S 322 9 ∧ iI S' (9 + x) 10 = 1 ∧ iI S' 0 3 = ((x + 1 : Nat) : Int) := by
  obtain ⟨S1, e1, F1, pr1⟩ := X3_copyFrom (fl := fl) (s := S) (a := 9 + x) (b := 322) (by omega) (g := fun k => if k < 56 then iI S 322 (k - 50) else if k = 56 then iI S 322 7 else if k = 57 then iI S 322 8 else if k = 59 then iI S 322 9 else iI S 322 10) (q := 0) ⟨fun i hi => by
    show iI S 322 i = if 50 + 10 * 0 + i < 56 then iI S 322 (50 + 10 * 0 + i - 50) else _
    rw [if_pos (by omega)]
    congr 1
    omega, by
    show gL S 322 6 = mI (iI S 322 4) (iI S 322 5)
    rw [v4, v5, vL], rfl, rfl, rfl, rfl⟩ (by show 0 ≤ iI S 322 10; omega) (by show iI S 322 10 ≤ 1; omega)
  obtain ⟨q1, q2, q3, q4, q5, q6⟩ := pr1
  have q1' : ∀ i, i < 6 → iI S1 (9 + x) i = iI S 322 i := fun i hi => by
    rw [q1 i hi]
    show (if 50 + 10 * 0 + i < 56 then iI S 322 (50 + 10 * 0 + i - 50) else _) = _
    rw [if_pos (by omega)]
    congr 1
    omega
  have q2' : gL S1 (9 + x) 6 = mI f n := by
    rw [q2]
    show mI (iI S 322 4) (iI S 322 5) = _
    rw [v4, v5]
  have q5' : iI S1 (9 + x) 9 = iI S 322 9 := q5
  have hs1 := FG_RO F1 hs
  obtain ⟨S2, e2, F2, y2⟩ := stI S1 (9 + x) 7 (v := g) (by omega) (by omega)
  have hs2 := FG_RO F2 hs1
  have rt := rateC (fl := fl) hs2 (n := np) (p := g) (by rw [FG_I F2 (by omega), FG_I F1 (by omega)]; exact hp) hg h6
  have eR : gI S2 (2 + g) 4 = oI R := by rw [gI_oI, FG_I F2 (by omega), FG_I F1 (by omega), hR]
  have e3' : gI S2 322 3 = oI pw := by rw [gI_oI, FG_I F2 (by omega), FG_I F1 (by omega), v3]
  have e5' : gI S2 322 5 = oI n := by rw [gI_oI, FG_I F2 (by omega), FG_I F1 (by omega), v5]
  obtain ⟨S3, e3, F3, y3⟩ := stI S2 (9 + x) 8 (v := (R + pw) * n) (by omega) (by omega)
  obtain ⟨S4, e4, F4, y4⟩ := stI S3 (9 + x) 10 (v := 1) (by omega) (by omega)
  have e03 : gI S4 0 3 = oI (x : Int) := by rw [gI_oI, FG_I F4 (by omega), FG_I F3 (by omega), FG_I F2 (by omega), FG_I F1 (by omega), hx]
  obtain ⟨S5, e5, F5, y5⟩ := stI S4 0 3 (v := ((x + 1 : Nat) : Int)) (by omega) (by omega)
  refine ⟨S5, ?_, FG_trans (FG_mono F1 (by omega)) (FG_trans (FG_mono F2 (by omega)) (FG_trans (FG_mono F3 (by omega)) (FG_trans (FG_mono F4 (by omega)) (FG_mono F5 (by omega))))), fun i hi => ?_, ?_, ?_, ?_, ?_, ?_, y5⟩
  · unfold F_X1_makeParty
    rw [ld_02 hs, bd_some, show gI S 0 3 = oI (x : Int) from by rw [gI_oI, hx], gd_t ((oI_inR (by omega) (by omega)).mpr (by omega)), ldQ hs hx12, bd_some, e1, bd_some, nx_eq, e2, rt, bd_some, nx_eq, eR, e3', e5', oI_add, oI_mul, e3, nx_eq, show (1 : Int32) = oI 1 from rfl, e4, nx_eq, e03, show oI (x : Int) + oI 1 = oI ((x + 1 : Nat) : Int) from by rw [oI_add]; rfl, e5, gI_oI, y5, oI_sub]
    congr 3
    omega
  · rw [FG_I F5 (by omega), FG_I F4 (by omega), FG_I F3 (by omega), FG_I F2 (by omega)]; exact q1' i hi
  · rw [FG_L F5 (by omega), FG_L F4 (by omega), FG_L F3 (by omega), FG_L F2 (by omega)]; exact q2'
  · rw [FG_I F5 (by omega), FG_I F4 (by omega), FG_I F3 (by omega)]; exact y2
  · rw [FG_I F5 (by omega), FG_I F4 (by omega)]; exact y3
  · rw [FG_I F5 (by omega), FG_I F4 (by omega), FG_I F3 (by omega), FG_I F2 (by omega)]; exact q5'
  · rw [FG_I F5 (by omega)]; exact y4
theorem X5_carryL {fl : Nat} {W D : Nat → Nat} {c : Nat} (hc : c ≤ 2) (hW : ∀ i j, 1 ≤ i → i ≤ c → 1 ≤ j → j ≤ c → W i = W j → i = j) : ∀ (m k : Nat) (S : Mem) (f : Nat), k + m = c + 1 → 1 ≤ k → m < f → RO S → iI S 321 2 = c → iI S 326 0 = D 0 → (∀ i, 1 ≤ i → i ≤ c → W i < 12 ∧ D i < 6 ∧ gR S 323 i = some (9 + W i) ∧ iI S 326 i = D i) →
    ∃ S', B_X5_carryOut_2 fl f 321 (oI k) S = (bd (F_X1_makeParty fl 0 322 (oI (D 0)) S') fun q9 => some (q9.1, q9.2)) ∧ FG S S' (fun a j => j = 7 ∧ ∃ i, k ≤ i ∧ i ≤ c ∧ a = 9 + W i) ∧ ∀ i, k ≤ i → i ≤ c → iI S' (9 + W i) 7 = D i := by
  intro m
  induction m with
  | zero =>
    intro k S f h h1 hf hs e2 e0 hw
    obtain ⟨f, rfl⟩ : ∃ f', f = f' + 1 := ⟨f - 1, by omega⟩
    refine ⟨S, ?_, FG_refl _ _, fun i h1 h2 => by omega⟩
    unfold B_X5_carryOut_2
    rw [show gI S 321 2 = oI (c : Int) from by rw [gI_oI, e2], if_pos (by rw [oI_lt (by omega) (by omega) (by omega) (by omega)]; omega), ld_321_0 hs, bd_some, ld_321_1 hs, bd_some, ld_321_6 hs, bd_some, gd_t (by decide)]
    dsimp only
    rw [show gI S 326 (0 : Int32).toNatClampNeg = oI (D 0 : Int) from by rw [gI_oI]; exact congrArg oI e0]
  | succ m ih =>
    intro k S f h h1 hf hs e2 e0 hw
    obtain ⟨f, rfl⟩ : ∃ f', f = f' + 1 := ⟨f - 1, by omega⟩
    obtain ⟨w1, w2, w3, w4⟩ := hw k h1 (by omega)
    have tk : (oI (k : Int)).toNatClampNeg = k := by rw [oI_nat (by omega) (by omega)]; rfl
    have l3 : ldO S 323 (oI (k : Int)).toNatClampNeg 5 = some (9 + W k) := by rw [tk]; exact ldW_q w1 w3
    have g6 : gI S 326 (oI (k : Int)).toNatClampNeg = oI (D k : Int) := by rw [tk, gI_oI, w4]
    obtain ⟨S1, e1, F1, y1⟩ := stI S (9 + W k) 7 (v := D k) (by omega) (by omega)
    have r1 : ∀ j, gR S1 323 j = gR S 323 j := fun j => by rw [← e1]; rfl
    obtain ⟨S', g1, g2, g3⟩ := ih (k + 1) S1 f (by omega) (by omega) (by omega) (FG_RO F1 hs) (by rw [FG_I F1 (by omega)]; exact e2) (by rw [FG_I F1 (by omega)]; exact e0) (fun i i1 i2 => by
      obtain ⟨a1, a2, a3, a4⟩ := hw i i1 i2
      exact ⟨a1, a2, by rw [r1]; exact a3, by rw [FG_I F1 (by omega)]; exact a4⟩)
    refine ⟨S', ?_, FG_trans (FG_mono F1 (fun a j z => ⟨z.2, k, Nat.le_refl _, by omega, z.1⟩)) (FG_mono g2 (fun a j z => by
      obtain ⟨z1, i, z2, z3, z4⟩ := z
      exact ⟨z1, i, by omega, z3, z4⟩)), fun i i1 i2 => ?_⟩
    · conv => lhs; unfold B_X5_carryOut_2
      rw [show gI S 321 2 = oI (c : Int) from by rw [gI_oI, e2], if_neg (by rw [oI_lt (by omega) (by omega) (by omega) (by omega)]; omega), ld_321_3 hs, bd_some, gd_t ((oI_inR (by omega) (by omega)).mpr (by omega)), l3, bd_some, ld_321_6 hs, bd_some, gd_t ((oI_inR (by omega) (by omega)).mpr (by omega)), nx_eq]
      dsimp only
      rw [g6, e1, show oI (k : Int) + 1 = oI ((k + 1 : Nat) : Int) from by rw [oI_lit, oI_add]; rfl]
      exact g1
    · by_cases hik : i = k
      · subst hik
        rw [FG_I g2 (by
          rintro ⟨-, i', z1, z2, z3⟩
          have := hW i i' h1 i2 (by omega) z2 (by omega)
          omega)]
        exact y1
      · exact g3 i (by omega) i2
theorem X5_writeL {fl : Nat} {a b d : Nat → Int} {c : Nat} (hc : c ≤ 2) (ba : ∀ i, 1 ≤ i → i ≤ c → -1 ≤ a i ∧ a i < 100 ∧ -1 ≤ b i ∧ b i < 100 ∧ -1 ≤ d i ∧ d i < 100) : ∀ (m k : Nat) (S : Mem) (f : Nat), k + m = c + 1 → 1 ≤ k → m < f → RO S → iI S 321 2 = c → (∀ i, 1 ≤ i → i ≤ c → iI S 324 i = a i ∧ iI S 325 i = b i ∧ iI S 326 i = d i) → (∀ i, 1 ≤ i → i < k → iI S 339 (3 * (i - 1)) = a i ∧ iI S 339 (3 * (i - 1) + 1) = b i ∧ iI S 339 (3 * (i - 1) + 2) = d i) →
    ∃ S', B_X5_writeMoves_2 fl f 321 339 (oI k) S = some (oI c, S') ∧ FG S S' (fun k j => k = 339) ∧ (∀ j, gR S' 323 j = gR S 323 j) ∧ ∀ i, 1 ≤ i → i ≤ c → iI S' 339 (3 * (i - 1)) = a i ∧ iI S' 339 (3 * (i - 1) + 1) = b i ∧ iI S' 339 (3 * (i - 1) + 2) = d i := by
  intro m
  induction m with
  | zero =>
    intro k S f h h1 hf hs e2 hv hd
    obtain ⟨f, rfl⟩ : ∃ f', f = f' + 1 := ⟨f - 1, by omega⟩
    refine ⟨S, ?_, FG_refl _ _, fun _ => rfl, fun i i1 i2 => hd i i1 (by omega)⟩
    unfold B_X5_writeMoves_2
    rw [show gI S 321 2 = oI (c : Int) from by rw [gI_oI, e2], if_pos (by rw [oI_lt (by omega) (by omega) (by omega) (by omega)]; omega)]
  | succ m ih =>
    intro k S f h h1 hf hs e2 hv hd
    obtain ⟨f, rfl⟩ : ∃ f', f = f' + 1 := ⟨f - 1, by omega⟩
    obtain ⟨v1, v2, v3⟩ := hv k h1 (by omega)
    have bb := ba k h1 (by omega)
    have tk : (oI (k : Int)).toNatClampNeg = k := by rw [oI_nat (by omega) (by omega)]; rfl
    have i0 : (oI (k : Int) - 1) * 3 = oI ((3 * (k - 1) : Nat) : Int) := by rw [oI_lit, oI_sub, show (3 : Int32) = oI 3 from rfl, oI_mul]; congr 1; omega
    have i1 : oI ((3 * (k - 1) : Nat) : Int) + 1 = oI ((3 * (k - 1) + 1 : Nat) : Int) := by rw [oI_lit, oI_add]; rfl
    have i2 : oI ((3 * (k - 1) : Nat) : Int) + 2 = oI ((3 * (k - 1) + 2 : Nat) : Int) := by rw [oI_lit, oI_add]; rfl
    have t0 : (oI ((3 * (k - 1) : Nat) : Int)).toNatClampNeg = 3 * (k - 1) := by rw [oI_nat (by omega) (by omega)]; rfl
    have t1 : (oI ((3 * (k - 1) + 1 : Nat) : Int)).toNatClampNeg = 3 * (k - 1) + 1 := by rw [oI_nat (by omega) (by omega)]; rfl
    have t2 : (oI ((3 * (k - 1) + 2 : Nat) : Int)).toNatClampNeg = 3 * (k - 1) + 2 := by rw [oI_nat (by omega) (by omega)]; rfl
    have r3 : inR (oI (k : Int)) 3 := (oI_inR (by omega) (by omega)).mpr (by omega)
    obtain ⟨S1, e1, F1, y1⟩ := stI S 339 (3 * (k - 1)) (v := a k) (by omega) (by omega)
    obtain ⟨S2, x2, F2, y2⟩ := stI S1 339 (3 * (k - 1) + 1) (v := b k) (by omega) (by omega)
    obtain ⟨S3, x3, F3, y3⟩ := stI S2 339 (3 * (k - 1) + 2) (v := d k) (by omega) (by omega)
    have F13 : FG S S3 (fun a j => a = 339 ∧ 3 * (k - 1) ≤ j ∧ j ≤ 3 * (k - 1) + 2) := FG_trans (FG_mono F1 (by omega)) (FG_trans (FG_mono F2 (by omega)) (FG_mono F3 (by omega)))
    have rr : ∀ j, gR S3 323 j = gR S 323 j := fun j => by rw [← x3, ← x2, ← e1]; rfl
    have hs1 := FG_RO F1 hs
    have hs2 := FG_RO F2 hs1
    obtain ⟨S', g1, g2, g3, g4⟩ := ih (k + 1) S3 f (by omega) (by omega) (by omega) (FG_RO F3 hs2) (by rw [FG_I F13 (by omega)]; exact e2) (fun i i1 i2 => by rw [FG_I F13 (by omega), FG_I F13 (by omega), FG_I F13 (by omega)]; exact hv i i1 i2) (fun i i1 i2 => by
      by_cases hik : i = k
      · subst hik
        exact ⟨by rw [FG_I F3 (by omega), FG_I F2 (by omega)]; exact y1, by rw [FG_I F3 (by omega)]; exact y2, y3⟩
      · rw [FG_I F13 (by omega), FG_I F13 (by omega), FG_I F13 (by omega)]
        exact hd i i1 (by omega))
    refine ⟨S', ?_, FG_trans (FG_mono F13 (by omega)) g2, fun j => (g3 j).trans (rr j), g4⟩
    conv => lhs; unfold B_X5_writeMoves_2
    have c4 : gI S 324 (oI (k : Int)).toNatClampNeg = oI (a k) := by rw [tk, gI_oI, v1]
    have c5 : gI S1 325 (oI (k : Int)).toNatClampNeg = oI (b k) := by rw [tk, gI_oI, FG_I F1 (by omega), v2]
    have c6 : gI S2 326 (oI (k : Int)).toNatClampNeg = oI (d k) := by rw [tk, gI_oI, FG_I F2 (by omega), FG_I F1 (by omega), v3]
    rw [show gI S 321 2 = oI (c : Int) from by rw [gI_oI, e2], if_neg (by rw [oI_lt (by omega) (by omega) (by omega) (by omega)]; omega), ld_321_4 hs, bd_some, gd_t r3, show aLen 339 0 = some 6 from rfl, bd_some, i0, i1, i2, gd_t ((oI_inR (by omega) (by omega)).mpr (by omega)), nx_eq]
    dsimp only
    rw [c4, t0, e1, ld_321_5 hs1, bd_some, gd_t r3, gd_t ((oI_inR (by omega) (by omega)).mpr (by omega)), nx_eq]
    dsimp only
    rw [c5, t1, x2, ld_321_6 hs2, bd_some, gd_t r3, gd_t ((oI_inR (by omega) (by omega)).mpr (by omega)), nx_eq]
    dsimp only
    rw [c6, t2, x3, show oI (k : Int) + 1 = oI ((k + 1 : Nat) : Int) from by rw [oI_lit, oI_add]; rfl]
    exact g1
