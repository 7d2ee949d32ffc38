abbrev ldB (s : Mem) (w : Int) (q : Nat) : Prop := (q : Int) < iI s 341 1 ∧ iI s 341 (50 + 10 * q + 8) = 1 ∧ (q : Int) ≠ w
def ldV (s : Mem) (w : Int) (q f : Nat) (d : Int) : Int := if ldB s w q then iI s 341 (50 + 10 * q + f) else d
def ld4 (s : Mem) (q : Nat) (a f n p : Int) : Mem := pI (pI (pI (pI s 342 q (oI a)) 343 q (oI f)) 344 q (oI n)) 345 q (oI p)
theorem aL13 {k : Nat} (h1 : 342 ≤ k) (h2 : k ≤ 345) : aLen k 0 = some 13 := by
  have : k = 342 ∨ k = 343 ∨ k = 344 ∨ k = 345 := by omega
  rcases this with rfl | rfl | rfl | rfl <;> rfl
theorem X8_loadsN {k2 : Nat → Int32 → Int32 → Mem → Option Mem} {fl : Nat} {s : Mem} (hs : RO s) {w : Int32} {i : Nat} (hi : i < 13) : B_X8_loads_37 k2 fl 340 w (oI i) (oI 0) s = k2 340 w (oI (i + 1 : Nat)) (ld4 s i (-1) 0 0 0) := by
  unfold B_X8_loads_37 B_X8_loads_58 B_X8_loads_78 B_X8_loads_98 B_X8_loads_118 ld4
  rw [show oI 0 = (0 : Int32) from rfl]
  simp (disch := omega) only [if_true, bd_some, nx_eq, xb_r, xb_l, xc_r, xc_l, oI_lit, oI_nI, oI_add, oI_sub, oI_mul, oI_neg, gI_oI, ldA_I, ldA_L, ldO_I, ldO_L, oB_z, oB_o, gd_oB, lgc0n, oI_litN, ← Int.natCast_add, ← Int.natCast_mul, Int.toNat_natCast, if_true, if_false, oI_le, oI_lt, oI_eq, oI_nat, oI_inR, gd_t, ld_340_4 hs, ld_340_5 hs, ld_340_6 hs, ld_340_7 hs, aL13]
theorem X8_loadsY {k2 : Nat → Int32 → Int32 → Mem → Option Mem} {fl : Nat} {s : Mem} (hs : RO s) {w : Int32} {i : Nat} (hi : i < 12) : B_X8_loads_37 k2 fl 340 w (oI i) (oI 1) s = k2 340 w (oI (i + 1 : Nat)) (ld4 s i (iI s 341 (50 + 10 * i + 6)) (iI s 341 (50 + 10 * i + 4)) (iI s 341 (50 + 10 * i + 5)) (iI s 341 (50 + 10 * i + 3))) := by
  have hn : ¬ ((1 : Int32) = 0) := by decide
  have r1 : RO (pI s 342 i (oI (iI s 341 (50 + 10 * i + 6)))) := hs
  have r2 : RO (pI (pI s 342 i (oI (iI s 341 (50 + 10 * i + 6)))) 343 i (oI (iI s 341 (50 + 10 * i + 4)))) := hs
  have r3 : RO (pI (pI (pI s 342 i (oI (iI s 341 (50 + 10 * i + 6)))) 343 i (oI (iI s 341 (50 + 10 * i + 4)))) 344 i (oI (iI s 341 (50 + 10 * i + 5)))) := hs
  have n1 : ∀ (t : Mem) (v : Int32) (a c j : Nat), 342 ≤ c → iI (pI t c j v) 341 a = iI t 341 a := fun t v a c j h => iI_pn (Or.inl (by omega))
  unfold B_X8_loads_37 B_X8_loads_58 B_X8_loads_78 B_X8_loads_98 B_X8_loads_118 ld4
  rw [show oI 1 = (1 : Int32) from rfl]
  simp only [if_neg hn]
  simp (disch := omega) only [bd_some, nx_eq, xb_r, xb_l, xc_r, xc_l, oI_lit, oI_nI, oI_add, oI_sub, oI_mul, oI_neg, gI_oI, ldA_I, ldA_L, ldO_I, ldO_L, oB_z, oB_o, gd_oB, lgc0n, oI_litN, ← Int.natCast_add, ← Int.natCast_mul, Int.toNat_natCast, if_true, if_false, oI_le, oI_lt, oI_eq, oI_nat, oI_inR, gd_t, ld_340_4 hs, ld_340_5 hs, ld_340_6 hs, ld_340_7 hs, aL13, X8_of hs, X8_of r1, X8_of r2, X8_of r3, n1]
def ldS (s : Mem) (w : Int) (q : Nat) : Mem := ld4 s q (ldV s w q 6 (-1)) (ldV s w q 4 0) (ldV s w q 5 0) (ldV s w q 3 0)
theorem X8_loads1 {fl : Nat} {s : Mem} (hs : RO s) {w : Int} (h1 : -2147483648 ≤ w) (h2 : w < 2147483648) (hq0 : 0 ≤ iI s 341 1) (hq1 : iI s 341 1 ≤ 12) {i k : Nat} (hi : i < 13) : B_X8_loads_2 fl (k + 1) 340 (oI w) (oI i) s = B_X8_loads_2 fl k 340 (oI w) (oI (i + 1 : Nat)) (ldS s w i) := by
  have c0 := iI_lo s 341 (50 + 10 * i + 8)
  have c1 := iI_hi s 341 (50 + 10 * i + 8)
  unfold ldS ldV
  rw [B_X8_loads_2]
  dsimp only
  unfold B_X8_loads_36
  rw [show (0 : Int32) = oI 0 from rfl, show (1 : Int32) = oI 1 from rfl, X8_loadsN hs hi]
  by_cases hB : ldB s w i
  · rw [if_pos hB, if_pos hB, if_pos hB, if_pos hB]
    have hi2 : i < 12 := by omega
    rw [X8_loadsY hs hi2]
    simp (disch := omega) only [bd_some, nx_eq, xb_r, xb_l, xc_r, xc_l, oI_lit, oI_nI, oI_add, oI_sub, oI_mul, oI_neg, gI_oI, ldA_I, ldA_L, ldO_I, ldO_L, oB_z, oB_o, gd_oB, lgc0n, oI_litN, ← Int.natCast_add, ← Int.natCast_mul, Int.toNat_natCast, if_true, if_false, oI_le, oI_lt, oI_eq, oI_nat, oI_inR, gd_t, X8_isParty hs, X8_of hs]
    rw [if_neg (by omega), if_neg (by omega), if_pos (by omega), if_neg (by omega)]
  · rw [if_neg hB, if_neg hB, if_neg hB, if_neg hB]
    by_cases hq : (i : Int) < iI s 341 1
    · have hi2 : i < 12 := by omega
      rw [X8_loadsY hs hi2]
      simp (disch := omega) only [bd_some, nx_eq, xb_r, xb_l, xc_r, xc_l, oI_lit, oI_nI, oI_add, oI_sub, oI_mul, oI_neg, gI_oI, ldA_I, ldA_L, ldO_I, ldO_L, oB_z, oB_o, gd_oB, lgc0n, oI_litN, ← Int.natCast_add, ← Int.natCast_mul, Int.toNat_natCast, if_true, if_false, oI_le, oI_lt, oI_eq, oI_nat, oI_inR, gd_t, X8_isParty hs, X8_of hs]
      rw [if_neg (by omega), if_neg (by omega)]
      repeat' split
      all_goals first
        | rfl
        | (exfalso; omega)
    · simp (disch := omega) only [bd_some, nx_eq, xb_r, xb_l, xc_r, xc_l, oI_lit, oI_nI, oI_add, oI_sub, oI_mul, oI_neg, gI_oI, ldA_I, ldA_L, ldO_I, ldO_L, oB_z, oB_o, gd_oB, lgc0n, oI_litN, ← Int.natCast_add, ← Int.natCast_mul, Int.toNat_natCast, if_true, if_false, oI_le, oI_lt, oI_eq, oI_nat, oI_inR, gd_t, X8_isParty hs]
      rw [if_neg (by omega), if_pos (by omega)]
theorem ldS_FI (s : Mem) (w : Int) (i : Nat) : FI s (ldS s w i) (fun k j => 342 ≤ k ∧ k ≤ 345 ∧ j = i) := by
  unfold ldS ld4
  refine FI_trans (FI_trans (FI_trans (FI_p _ _ _ _ ?_) (FI_p _ _ _ _ ?_)) (FI_p _ _ _ _ ?_)) (FI_p _ _ _ _ ?_) <;> omega
theorem ldV_bd {s : Mem} {w : Int} {q f : Nat} {d : Int} (hd : -2147483648 ≤ d) (hd2 : d < 2147483648) : -2147483648 ≤ ldV s w q f d ∧ ldV s w q f d < 2147483648 := by
  have h1 := iI_lo s 341 (50 + 10 * q + f)
  have h2 := iI_hi s 341 (50 + 10 * q + f)
  unfold ldV
  split <;> omega
theorem ldS_v (s : Mem) (w : Int) (i : Nat) : iI (ldS s w i) 342 i = ldV s w i 6 (-1) ∧ iI (ldS s w i) 343 i = ldV s w i 4 0 ∧ iI (ldS s w i) 344 i = ldV s w i 5 0 ∧ iI (ldS s w i) 345 i = ldV s w i 3 0 := by
  have a := ldV_bd (s := s) (w := w) (q := i) (f := 6) (d := -1) (by omega) (by omega)
  have b := ldV_bd (s := s) (w := w) (q := i) (f := 4) (d := 0) (by omega) (by omega)
  have c := ldV_bd (s := s) (w := w) (q := i) (f := 5) (d := 0) (by omega) (by omega)
  have d := ldV_bd (s := s) (w := w) (q := i) (f := 3) (d := 0) (by omega) (by omega)
  unfold ldS ld4
  refine ⟨?_, ?_, ?_, ?_⟩
  · rw [iI_pn (Or.inl (by omega)), iI_pn (Or.inl (by omega)), iI_pn (Or.inl (by omega)), iI_pe a.1 a.2]
  · rw [iI_pn (Or.inl (by omega)), iI_pn (Or.inl (by omega)), iI_pe b.1 b.2]
  · rw [iI_pn (Or.inl (by omega)), iI_pe c.1 c.2]
  · rw [iI_pe d.1 d.2]
theorem ldV_FI {s s' : Mem} {C : Nat → Nat → Prop} (h : FI s s' C) (hC : ∀ j, ¬ C 341 j) (w : Int) (q f : Nat) (d : Int) : ldV s' w q f d = ldV s w q f d := by
  unfold ldV ldB
  rw [h.2 341 1 (hC _), h.2 341 (50 + 10 * q + 8) (hC _), h.2 341 (50 + 10 * q + f) (hC _)]
def LD (s s' : Mem) (w : Int) (q : Nat) : Prop := iI s' 342 q = ldV s w q 6 (-1) ∧ iI s' 343 q = ldV s w q 4 0 ∧ iI s' 344 q = ldV s w q 5 0 ∧ iI s' 345 q = ldV s w q 3 0
theorem X8_loadsL {fl : Nat} {w : Int} (h1 : -2147483648 ≤ w) (h2 : w < 2147483648) : ∀ (m i : Nat) (s : Mem) (k : Nat), i + m = 13 → m < k → RO s → 0 ≤ iI s 341 1 → iI s 341 1 ≤ 12 →
    ∃ s', B_X8_loads_2 fl k 340 (oI w) (oI i) s = some s' ∧ FI s s' (fun k j => 342 ≤ k ∧ k ≤ 345 ∧ i ≤ j ∧ j ≤ 12) ∧ ∀ q, i ≤ q → q ≤ 12 → LD s s' w q := by
  intro m
  induction m with
  | zero =>
    intro i s k h hk hs hq0 hq1
    obtain ⟨k, rfl⟩ : ∃ k', k = k' + 1 := ⟨k - 1, by omega⟩
    refine ⟨s, ?_, FI_refl _ _, fun q h1 h2 => by omega⟩
    rw [B_X8_loads_2]
    dsimp only
    simp (disch := omega) only [bd_some, nx_eq, xb_r, xb_l, xc_r, xc_l, oI_lit, oI_nI, oI_add, oI_sub, oI_mul, oI_neg, gI_oI, ldA_I, ldA_L, ldO_I, ldO_L, oB_z, oB_o, gd_oB, lgc0n, oI_litN, ← Int.natCast_add, ← Int.natCast_mul, Int.toNat_natCast, if_true, if_false, oI_le, oI_lt, oI_eq, oI_nat, oI_inR, gd_t]
    rw [if_pos (by omega)]
  | succ m ih =>
    intro i s k h hk hs hq0 hq1
    obtain ⟨k, rfl⟩ : ∃ k', k = k' + 1 := ⟨k - 1, by omega⟩
    have hF := ldS_FI s w i
    have e1 : iI (ldS s w i) 341 1 = iI s 341 1 := hF.2 341 1 (by omega)
    obtain ⟨s', g1, g2, g3⟩ := ih (i + 1) (ldS s w i) k (by omega) (by omega) (FI_RO hF hs) (by omega) (by omega)
    refine ⟨s', ?_, FI_trans (FI_mono hF (by intro k j h; omega)) (FI_mono g2 (by intro k j h; omega)), ?_⟩
    · rw [X8_loads1 hs h1 h2 hq0 hq1 (by omega)]
      exact g1
    · intro q hq hq2
      by_cases hqi : q = i
      · subst hqi
        have v := ldS_v s w q
        unfold LD
        rw [g2.2 342 q (by omega), g2.2 343 q (by omega), g2.2 344 q (by omega), g2.2 345 q (by omega)]
        exact v
      · have v := g3 q (by omega) hq2
        unfold LD at v ⊢
        rw [ldV_FI hF (by omega), ldV_FI hF (by omega), ldV_FI hF (by omega), ldV_FI hF (by omega)] at v
        exact v
theorem X8_loads {fl : Nat} (hfl : 1000 ≤ fl) {s : Mem} (hs : RO s) {w : Int} (h1 : -2147483648 ≤ w) (h2 : w < 2147483648) (hq0 : 0 ≤ iI s 341 1) (hq1 : iI s 341 1 ≤ 12) :
    ∃ s', F_X8_loads fl 340 (oI w) s = some s' ∧ FI s s' (fun k j => 342 ≤ k ∧ k ≤ 345 ∧ j ≤ 12) ∧ ∀ q, q ≤ 12 → LD s s' w q := by
  obtain ⟨s', g1, g2, g3⟩ := X8_loadsL (fl := fl) h1 h2 13 0 s fl rfl (by omega) hs hq0 hq1
  exact ⟨s', g1, FI_mono g2 (by intro k j h; omega), fun q h => g3 q (Nat.zero_le _) h⟩
