-- what a call asks of its six numbers
def VA (s : Mem) (kd ln br pw f n : Int) : Prop := (0 ≤ kd ∧ kd ≤ 2) ∧ (1 ≤ ln ∧ ln ≤ 12) ∧ (1 ≤ br ∧ br ≤ 12) ∧ (0 ≤ pw ∧ pw ≤ 16) ∧ (0 ≤ f ∧ f < 60 ∧ 1 ≤ n ∧ n ≤ 14 ∧ f + n ≤ 60) ∧ iI s 341 3 ≤ f
theorem X8_badB (fl : Nat) (v1 v2 v3 v4 v5 v6 : Int32) (u : Mem) : B_X8_book_87 fl 340 v1 v2 v3 v4 v5 v6 u = some (0, pI u 340 0 (oI (1 : Nat))) := by
  unfold B_X8_book_87 B_X8_book_88 B_X8_book_116
  rw [if_pos rfl, nx_eq, if_neg (th_n u (by decide))]
  rfl
theorem X8_bookG {fl : Nat} {u : Mem} (hu : RO u) (t0 : 0 ≤ iI u 341 3) (t1 : iI u 341 3 ≤ 60) {kd ln br pw f n : Int} (a1 : -2147483648 ≤ kd) (a2 : kd < 2147483648) (b1 : -2147483648 ≤ ln) (b2 : ln < 2147483648) (c1 : -2147483648 ≤ br) (c2 : br < 2147483648) (d1 : -2147483648 ≤ pw) (d2 : pw < 2147483648) (e1 : -2147483648 ≤ f) (e2 : f < 2147483648) (f1 : -2147483648 ≤ n) (f2 : n < 2147483648) :
    (VA u kd ln br pw f n → F_X8_book fl 340 (oI kd) (oI ln) (oI br) (oI pw) (oI f) (oI n) u = B_X8_book_88 fl 340 (oI kd) (oI ln) (oI br) (oI pw) (oI f) (oI n) 1 u) ∧ (¬ VA u kd ln br pw f n → F_X8_book fl 340 (oI kd) (oI ln) (oI br) (oI pw) (oI f) (oI n) u = some (0, pI u 340 0 (oI (1 : Nat)))) := by
  have g1 : F_X8_in fl (oI kd) 0 2 u = some (oB (0 ≤ kd ∧ kd ≤ 2)) := X8_in (v := kd) (a := 0) (b := 2) a1 a2 (by omega) (by omega) (by omega) (by omega)
  have g2 : F_X8_in fl (oI ln) 1 12 u = some (oB (1 ≤ ln ∧ ln ≤ 12)) := X8_in (v := ln) (a := 1) (b := 12) b1 b2 (by omega) (by omega) (by omega) (by omega)
  have g3 : F_X8_in fl (oI br) 1 12 u = some (oB (1 ≤ br ∧ br ≤ 12)) := X8_in (v := br) (a := 1) (b := 12) c1 c2 (by omega) (by omega) (by omega) (by omega)
  have g4 : F_X8_in fl (oI pw) 0 16 u = some (oB (0 ≤ pw ∧ pw ≤ 16)) := X8_in (v := pw) (a := 0) (b := 16) d1 d2 (by omega) (by omega) (by omega) (by omega)
  have g5 := X8_isNight (fl := fl) (s := u) e1 e2
  have g6 : F_X8_in fl (oI n) 1 14 u = some (oB (1 ≤ n ∧ n ≤ 14)) := X8_in (v := n) (a := 1) (b := 14) f1 f2 (by omega) (by omega) (by omega) (by omega)
  have gt : gI u 341 (3 : Int32).toNatClampNeg = oI (iI u 341 3) := by rw [gI_oI]; rfl
  unfold VA F_X8_book
  rw [g1, bd_some, X8_badB]
  by_cases h1 : 0 ≤ kd ∧ kd ≤ 2
  case neg => rw [ifB_f h1]; exact ⟨fun z => absurd z.1 h1, fun _ => rfl⟩
  rw [ifB_t h1, g2, bd_some]
  by_cases h2 : 1 ≤ ln ∧ ln ≤ 12
  case neg => rw [ifB_f h2]; exact ⟨fun z => absurd z.2.1 h2, fun _ => rfl⟩
  rw [ifB_t h2, g3, bd_some]
  by_cases h3 : 1 ≤ br ∧ br ≤ 12
  case neg => rw [ifB_f h3]; exact ⟨fun z => absurd z.2.2.1 h3, fun _ => rfl⟩
  rw [ifB_t h3, g4, bd_some]
  by_cases h4 : 0 ≤ pw ∧ pw ≤ 16
  case neg => rw [ifB_f h4]; exact ⟨fun z => absurd z.2.2.2.1 h4, fun _ => rfl⟩
  rw [ifB_t h4, g5, bd_some]
  by_cases h5 : 0 ≤ f ∧ f < 60
  case neg => rw [ifB_f h5]; exact ⟨fun z => absurd ⟨z.2.2.2.2.1.1, z.2.2.2.2.1.2.1⟩ h5, fun _ => rfl⟩
  rw [ifB_t h5, ld_340_1 hu, bd_some, gd_t (by decide)]
  dsimp only
  rw [gt]
  by_cases h6 : iI u 341 3 ≤ f
  case neg => rw [if_pos (by rw [oI_lt (by omega) (by omega) (by omega) (by omega)]; omega)]; exact ⟨fun z => absurd z.2.2.2.2.2 h6, fun _ => rfl⟩
  rw [if_neg (by rw [oI_lt (by omega) (by omega) (by omega) (by omega)]; omega), g6, bd_some]
  by_cases h7 : 1 ≤ n ∧ n ≤ 14
  case neg => rw [ifB_f h7]; exact ⟨fun z => absurd ⟨z.2.2.2.2.1.2.2.1, z.2.2.2.2.1.2.2.2.1⟩ h7, fun _ => rfl⟩
  have g7 := X8_isNight (fl := fl) (s := u) (p := f + n - 1) (by omega) (by omega)
  rw [ifB_t h7, show oI f + oI n - 1 = oI (f + n - 1) from by rw [oI_lit, oI_add, oI_sub], g7, bd_some]
  by_cases h8 : 0 ≤ f + n - 1 ∧ f + n - 1 < 60
  case neg => rw [ifB_f h8]; exact ⟨fun z => absurd (by have := z.2.2.2.2.1; omega) h8, fun _ => rfl⟩
  rw [ifB_t h8]
  exact ⟨fun _ => rfl, fun z => absurd ⟨h1, h2, h3, h4, by omega, h6⟩ z⟩
theorem X7_bookG {fl : Nat} {s : Mem} (hs : RO s) (hc : CR s 0 (iI s 341)) (t0 : 0 ≤ iI s 341 3) (t1 : iI s 341 3 ≤ 60) (q0 : 0 ≤ iI s 341 1) (q1 : iI s 341 1 ≤ 12) {kd ln br pw f n : Int} (a1 : -2147483648 ≤ kd) (a2 : kd < 2147483648) (b1 : -2147483648 ≤ ln) (b2 : ln < 2147483648) (c1 : -2147483648 ≤ br) (c2 : br < 2147483648) (d1 : -2147483648 ≤ pw) (d2 : pw < 2147483648) (e1 : -2147483648 ≤ f) (e2 : f < 2147483648) (f1 : -2147483648 ≤ n) (f2 : n < 2147483648) :
    (VA s kd ln br pw f n → iI s 341 1 = 12 → F_X7_book fl 320 (oI kd) (oI ln) (oI br) (oI pw) (oI f) (oI n) s = some (.inl 2, s)) ∧ (¬ VA s kd ln br pw f n → F_X7_book fl 320 (oI kd) (oI ln) (oI br) (oI pw) (oI f) (oI n) s = some (.inl 1, s)) ∧
    (VA s kd ln br pw f n → iI s 341 1 < 12 → ∀ S1 S2 r, F_X3_describe fl 322 (oI kd) (oI ln) (oI br) (oI pw) (oI f) (oI n) s = some S1 → RO S1 → F_X5_findBestPlan fl 321 S1 = some (r, S2) → RO S2 →
      (r = 0 → ∀ g, F_X1_greatestObstacle fl 0 322 S2 = some g → F_X7_book fl 320 (oI kd) (oI ln) (oI br) (oI pw) (oI f) (oI n) s = some (.inl 5, pI S2 320 6 g)) ∧
      (r = 1 → ∀ S3 S4 v S5 w, F_X2_keep fl 334 0 S2 = some S3 → RO S3 → F_X5_writeMoves fl 321 339 S3 = some (v, S4) → F_X5_carryOut fl 321 (pI S4 320 7 v) = some (w, S5) → RO S4 → F_X7_book fl 320 (oI kd) (oI ln) (oI br) (oI pw) (oI f) (oI n) s = some (.inr w, S5))) := by
  have g1 : F_X7_isWithin fl (oI kd) 0 2 s = some (oB (0 ≤ kd ∧ kd ≤ 2)) := X7_isWithin (v := kd) (a := 0) (b := 2) a1 a2 (by omega) (by omega) (by omega) (by omega)
  have g2 : F_X7_isWithin fl (oI ln) 1 12 s = some (oB (1 ≤ ln ∧ ln ≤ 12)) := X7_isWithin (v := ln) (a := 1) (b := 12) b1 b2 (by omega) (by omega) (by omega) (by omega)
  have g3 : F_X7_isWithin fl (oI br) 1 12 s = some (oB (1 ≤ br ∧ br ≤ 12)) := X7_isWithin (v := br) (a := 1) (b := 12) c1 c2 (by omega) (by omega) (by omega) (by omega)
  have g4 : F_X7_isWithin fl (oI pw) 0 16 s = some (oB (0 ≤ pw ∧ pw ≤ 16)) := X7_isWithin (v := pw) (a := 0) (b := 16) d1 d2 (by omega) (by omega) (by omega) (by omega)
  have g5 := X7_isStay (fl := fl) (s := s) e1 e2 f1 f2
  unfold VA F_X7_book B_X7_book_62
  rw [g1, bd_some]
  by_cases h1 : 0 ≤ kd ∧ kd ≤ 2
  case neg => rw [ifB_f h1]; exact ⟨fun z => absurd z.1 h1, fun _ => rfl, fun z => absurd z.1 h1⟩
  rw [ifB_t h1, g2, bd_some]
  by_cases h2 : 1 ≤ ln ∧ ln ≤ 12
  case neg => rw [ifB_f h2]; exact ⟨fun z => absurd z.2.1 h2, fun _ => rfl, fun z => absurd z.2.1 h2⟩
  rw [ifB_t h2, g3, bd_some]
  by_cases h3 : 1 ≤ br ∧ br ≤ 12
  case neg => rw [ifB_f h3]; exact ⟨fun z => absurd z.2.2.1 h3, fun _ => rfl, fun z => absurd z.2.2.1 h3⟩
  rw [ifB_t h3, g4, bd_some]
  by_cases h4 : 0 ≤ pw ∧ pw ≤ 16
  case neg => rw [ifB_f h4]; exact ⟨fun z => absurd z.2.2.2.1 h4, fun _ => rfl, fun z => absurd z.2.2.2.1 h4⟩
  rw [ifB_t h4, g5, bd_some]
  by_cases h5 : 0 ≤ f ∧ f < 60 ∧ 1 ≤ n ∧ n ≤ 14 ∧ f + n ≤ 60
  case neg => rw [ifB_f h5]; exact ⟨fun z => absurd z.2.2.2.2.1 h5, fun _ => rfl, fun z => absurd z.2.2.2.2.1 h5⟩
  rw [ifB_t h5, ld_320_1 hs, bd_some, bd_some, show gI s 0 8 = oI (iI s 341 3) from by rw [gI_oI, c_tn hc], show gI s 0 3 = oI (iI s 341 1) from by rw [gI_oI, c_qc hc]]
  by_cases h6 : iI s 341 3 ≤ f
  case neg => rw [if_neg (by rw [oI_le (by omega) (by omega) (by omega) (by omega)]; omega)]; exact ⟨fun z => absurd z.2.2.2.2.2 h6, fun _ => rfl, fun z => absurd z.2.2.2.2.2 h6⟩
  rw [if_pos (by rw [oI_le (by omega) (by omega) (by omega) (by omega)]; omega)]
  refine ⟨fun _ z => ?_, fun z => absurd ⟨h1, h2, h3, h4, h5, h6⟩ z, fun _ z S1 S2 r x1 x2 x3 x4 => ?_⟩
  · rw [if_neg (by rw [show (12 : Int32) = oI 12 from rfl, oI_lt (by omega) (by omega) (by omega) (by omega)]; omega)]
  · rw [if_pos (by rw [show (12 : Int32) = oI 12 from rfl, oI_lt (by omega) (by omega) (by omega) (by omega)]; omega), ld_320_0 hs, bd_some, ld_321_1 hs, bd_some, x1, bd_some, ld_320_0 x2, bd_some, x3, bd_some]
    dsimp only
    constructor
    · intro hr g hg
      rw [if_pos hr, ld_320_1 x4, bd_some, ld_320_0 x4, bd_some, ld_321_1 x4, bd_some, hg, bd_some, nx_eq]
    · intro hr S3 S4 v S5 w y1 y2 y3 y4 y5
      rw [if_neg (by rw [hr]; decide), ld_320_4 x4, bd_some, ld_320_1 x4, bd_some, y1, bd_some, ld_320_0 y2, bd_some, ld_320_8 y2, bd_some]
      dsimp only
      rw [y3, bd_some]
      dsimp only
      rw [nx_eq, show ldO (pI S4 320 7 v) 320 0 7 = ldO S4 320 0 7 from rfl, ld_320_0 y5, bd_some, y4, bd_some]
