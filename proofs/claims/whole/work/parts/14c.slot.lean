abbrev bkP (M : Mem) (g : Int) (q : Nat) : Prop := iI M 342 q = g ∧ ¬ (mI (iI M 343 q) (iI M 344 q) &&& mI (iI M 343 12) (iI M 344 12) = 0)
def bkH (M : Mem) (g : Int) (q : Nat) : Int := if bkP M g q then 1 else 0
theorem FG_pR (s : Mem) (j : Nat) (v : Option Nat) (C : Nat → Nat → Prop) (hj : 1 ≤ j) : FG s (pR s 323 j v) C := by
  refine ⟨fun _ _ _ => ⟨rfl, rfl⟩, fun a b h => ?_⟩
  rw [gR_p, if_neg (by omega)]
theorem shQ {q : Nat} (hq : q < 12) : shape (9 + q) = some (.inl 5) := by
  have := shape_c (A := 0) ⟨by decide, by decide⟩ (9 + q) (by omega)
  rw [Nat.zero_add] at this
  rw [this]
  unfold campSh
  rw [if_neg (by omega), if_neg (by omega), if_neg (by omega), if_neg (by omega), if_pos (by omega)]
theorem ldW_q {S : Mem} {k q : Nat} (hq : q < 12) (h : gR S 323 k = some (9 + q)) : ldO S 323 k 5 = some (9 + q) := by
  unfold ldO
  rw [h]
  exact if_pos (shQ hq)
theorem ldW_n {S : Mem} {k : Nat} (h : gR S 323 k = some 322) : ldO S 323 k 5 = some 322 := by
  unfold ldO
  rw [h]
  rfl
theorem X5_inWay {fl : Nat} {S M : Mem} (hB : PB S M) {g : Int} (hg : 0 ≤ g) (hg2 : g < 6) (h0 : iI S 326 0 = g) {q : Nat} (hq : (q : Int) < iI S 341 1) : F_X5_isInTheWay fl 321 (9 + q) S = some (oB (bkP M g q)) := by
  obtain ⟨hs, -, hv, hc, hL, hF, m3, m4, m5, m6, m7⟩ := hB
  have bn := VRn hv
  unfold VN at bn
  have d := VRq hv hq
  unfold VQ at d
  have on := X3_isOn (fl := fl) (s := S) (9 + q) (p := g) (by omega) (by omega)
  rw [c_q10 hc hq, c_q7 hc hq] at on
  unfold F_X5_isInTheWay
  rw [ld_321_6 hs, bd_some, gd_t (by decide)]
  dsimp only
  rw [show gI S 326 (0 : Int32).toNatClampNeg = oI g from by rw [gI_oI]; exact congrArg oI h0, on, bd_some]
  by_cases hB : ldB S (-1) q
  · have e := (hL.2.2 q (by omega)).1 hB
    by_cases hat : iI S 341 (50 + 10 * q + 6) = g
    · rw [ifB_t ⟨by unfold ldB at hB; omega, hat⟩, ld_321_1 hs, bd_some, c_qL hc hq, m6, ← m3, ← m4, ← e.2.1, ← e.2.2.1]
      by_cases hz : mI (iI M 343 q) (iI M 344 q) &&& mI (iI M 343 12) (iI M 344 12) = 0
      · rw [if_pos ((lgc0 _).mpr hz)]
        exact sB_f (fun z => z.2 hz)
      · rw [if_neg (fun z => hz ((lgc0 _).mp z))]
        exact sB_t ⟨by rw [e.1]; exact hat, hz⟩
    · rw [ifB_f (fun z => hat z.2)]
      exact sB_f (fun z => hat (by rw [← e.1]; exact z.1))
  · have e := (hL.2.2 q (by omega)).2 hB
    rw [ifB_f (fun z => hB ⟨hq, by omega, by omega⟩)]
    exact sB_f (fun z => by have := z.1; omega)
theorem bkH_bd (M : Mem) (g : Int) (q : Nat) : 0 ≤ bkH M g q ∧ bkH M g q ≤ 1 := by
  unfold bkH
  split <;> omega
theorem X5_goal30 {fl : Nat} {M : Mem} {g : Nat} {mc : Int} (hg2 : g < 6) (hm0 : 0 ≤ mc) (hm2 : mc ≤ 2) : ∀ (m i : Nat) (S : Mem) (k : Nat), PB S M → iI S 326 0 = g → iI S 321 2 = mc → iI S 341 1 = ((i + m : Nat) : Int) → m < k → iI S 329 0 = sm (bkH M g) i 0 →
    ∃ S', B_X5_chooseGoal_30 fl k 321 (oI g) (oI i) S = some (oB (sm (bkH M g) (i + m) 0 ≤ mc ∧ (g : Int) < iI S 341 0 ∧ ftP S (iI S 322 0) (iI S 322 1) (iI S 322 2) (iI S 322 3) g), S') ∧ FG S S' (fun k j => k = 329 ∧ j = 0) ∧ iI S' 329 0 = sm (bkH M g) (i + m) 0 := by
  intro m
  induction m with
  | zero =>
    intro i S k hB h0 h2 h hk hw
    obtain ⟨k, rfl⟩ : ∃ k', k = k' + 1 := ⟨k - 1, by omega⟩
    have hB' := hB
    obtain ⟨hs, -, hv, hc, hL, hF, m3, m4, m5, m6, m7⟩ := hB'
    have bn := VRn hv
    unfold VN at bn
    have sb := sm_bd (h := bkH M g) (b := 1) i 0 (fun q _ _ => bkH_bd M g q)
    have hf := X1_hasFit (fl := fl) hs hc hv 322 hg2
    refine ⟨S, ?_, FG_refl _ _, hw⟩
    unfold B_X5_chooseGoal_30
    rw [ld_321_0 hs, bd_some, show gI S 0 3 = oI (i : Int) from by rw [gI_oI, c_qc hc, h]; rfl, if_pos (by rw [oI_le (by omega) (by omega) (by omega) (by omega)]; omega), ld_321_9 hs, bd_some, gd_t (by decide)]
    dsimp only
    rw [show gI S 329 (0 : Int32).toNatClampNeg = oI (sm (bkH M g) i 0) from by rw [gI_oI]; exact congrArg oI hw, show gI S 321 2 = oI mc from by rw [gI_oI, h2]]
    by_cases hle : sm (bkH M g) i 0 ≤ mc
    · rw [if_neg (by rw [oI_lt (by omega) (by omega) (by omega) (by omega)]; omega), bd_some, ld_321_1 hs, bd_some, hf, bd_some]
      by_cases hft : (g : Int) < iI S 341 0 ∧ ftP S (iI S 322 0) (iI S 322 1) (iI S 322 2) (iI S 322 3) g
      · rw [ifB_t hft]
        exact congrArg (fun z => some (z, S)) (oB_t (p := sm (bkH M g) (i + 0) 0 ≤ mc ∧ (g : Int) < iI S 341 0 ∧ ftP S (iI S 322 0) (iI S 322 1) (iI S 322 2) (iI S 322 3) g) ⟨hle, hft⟩).symm
      · rw [ifB_f hft]
        exact congrArg (fun z => some (z, S)) (oB_f (p := sm (bkH M g) (i + 0) 0 ≤ mc ∧ (g : Int) < iI S 341 0 ∧ ftP S (iI S 322 0) (iI S 322 1) (iI S 322 2) (iI S 322 3) g) (fun z => hft z.2)).symm
    · rw [if_pos (by rw [oI_lt (by omega) (by omega) (by omega) (by omega)]; omega)]
      exact congrArg (fun z => some (z, S)) (oB_f (p := sm (bkH M g) (i + 0) 0 ≤ mc ∧ (g : Int) < iI S 341 0 ∧ ftP S (iI S 322 0) (iI S 322 1) (iI S 322 2) (iI S 322 3) g) (fun z => hle z.1)).symm
  | succ m ih =>
    intro i S k hB h0 h2 h hk hw
    obtain ⟨k, rfl⟩ : ∃ k', k = k' + 1 := ⟨k - 1, by omega⟩
    have hB' := hB
    obtain ⟨hs, -, hv, hc, hL, hF, m3, m4, m5, m6, m7⟩ := hB'
    have bn := VRn hv
    unfold VN at bn
    have sb := sm_bd (h := bkH M g) (b := 1) i 0 (fun q _ _ => bkH_bd M g q)
    have iw := X5_inWay (fl := fl) hB (g := g) (by omega) (by omega) h0 (q := i) (by omega)
    have en : oI (i : Int) + 1 = oI ((i + 1 : Nat) : Int) := by rw [oI_lit, oI_add]; rfl
    have key : ∃ S1, FG S S1 (fun k j => k = 329 ∧ j = 0) ∧ iI S1 329 0 = sm (bkH M g) (i + 1) 0 ∧ B_X5_chooseGoal_30 fl (k + 1) 321 (oI g) (oI i) S = B_X5_chooseGoal_30 fl k 321 (oI g) (oI ((i + 1 : Nat) : Int)) S1 := by
      have head : ∀ (f : Int32 → Option (Int32 × Mem)), (bd (ldO S 321 0 3) fun r15 => bd (ldA S r15 2 5) fun r17 => gd (inR (oI (i : Int)) r17.2) <| bd (ldO S r17.1 (oI (i : Int)).toNatClampNeg 5) fun r20 => bd (F_X5_isInTheWay fl 321 r20 S) fun q22 => f q22) = f (oB (bkP M g i)) := fun f => by
        rw [ld_321_0 hs, bd_some, ld_02 hs, bd_some]
        dsimp only
        rw [gd_t ((oI_inR (by omega) (by omega)).mpr (by omega)), ldQ hs (by omega), bd_some, iw, bd_some]
      by_cases hb : bkP M g i
      · obtain ⟨S1, e1, F1, y1⟩ := stI S 329 0 (v := sm (bkH M g) i 0 + 1) (by omega) (by omega)
        refine ⟨S1, F1, ?_, ?_⟩
        · rw [y1, sm_snoc, Nat.zero_add]
          unfold bkH
          rw [if_pos hb]
        · conv => lhs; unfold B_X5_chooseGoal_30 B_X5_chooseGoal_67
          rw [show ldO S 321 0 3 = some 0 from ld_321_0 hs, bd_some, show gI S 0 3 = oI (iI S 341 1) from by rw [gI_oI, c_qc hc], if_neg (by rw [oI_le (by omega) (by omega) (by omega) (by omega)]; omega), bd_some, ld_02 hs, bd_some]
          dsimp only
          rw [gd_t ((oI_inR (by omega) (by omega)).mpr (by omega)), ldQ hs (by omega), bd_some, iw, bd_some, ifB_t hb, ld_321_9 hs, bd_some, gd_t (by decide), gd_t (by decide)]
          dsimp only
          rw [nx_eq, show gI S 329 (0 : Int32).toNatClampNeg = oI (sm (bkH M g) i 0) from by rw [gI_oI]; exact congrArg oI hw, show oI (sm (bkH M g) i 0) + 1 = oI (sm (bkH M g) i 0 + 1) from by rw [oI_lit, oI_add], show (0 : Int32).toNatClampNeg = 0 from by decide, e1, en]
      · refine ⟨S, FG_refl _ _, ?_, ?_⟩
        · rw [hw, sm_snoc, Nat.zero_add]
          unfold bkH
          rw [if_neg hb, Int.add_zero]
        · conv => lhs; unfold B_X5_chooseGoal_30 B_X5_chooseGoal_67
          rw [show ldO S 321 0 3 = some 0 from ld_321_0 hs, bd_some, show gI S 0 3 = oI (iI S 341 1) from by rw [gI_oI, c_qc hc], if_neg (by rw [oI_le (by omega) (by omega) (by omega) (by omega)]; omega), bd_some, ld_02 hs, bd_some]
          dsimp only
          rw [gd_t ((oI_inR (by omega) (by omega)).mpr (by omega)), ldQ hs (by omega), bd_some, iw, bd_some, ifB_f hb, en]
    obtain ⟨S1, k1, k2, k3⟩ := key
    have hB1 : PB S1 M := PB_FG k1 (by unfold plC; omega) hB
    obtain ⟨S', g1, g2, g3⟩ := ih (i + 1) S1 k hB1 (by rw [FG_I k1 (by omega)]; exact h0) (by rw [FG_I k1 (by omega)]; exact h2) (by rw [FG_I k1 (by omega), h]; congr 1; omega) (by omega) k2
    rw [show i + (m + 1) = i + 1 + m by omega]
    refine ⟨S', ?_, FG_trans k1 g2, g3⟩
    rw [k3, g1]
    have e3 : ∀ k, iI S1 341 k = iI S 341 k := fun k => FG_I k1 (by omega)
    have e4 : ∀ k, iI S1 322 k = iI S 322 k := fun k => FG_I k1 (by omega)
    unfold ftP
    simp only [e3, e4]
theorem X5_chooseGoal {fl : Nat} (hfl : 1000 ≤ fl) {S M : Mem} (hB : PB S M) {g : Nat} {mc : Int} (hg2 : (g : Int) < iI S 341 0) (hm0 : 0 ≤ mc) (hm2 : mc ≤ 2) (h2 : iI S 321 2 = mc) :
    ∃ S', F_X5_chooseGoal fl 321 (oI g) S = some (oB (sm (bkH M g) (iI S 341 1).toNat 0 ≤ mc ∧ ftP S (iI S 322 0) (iI S 322 1) (iI S 322 2) (iI S 322 3) g), S') ∧ FG S S' (fun k j => (k = 326 ∨ k = 328 ∨ k = 329) ∧ j = 0) ∧ iI S' 326 0 = g ∧ iI S' 328 0 = ciM M g ∧ iI S' 329 0 = sm (bkH M g) (iI S 341 1).toNat 0 := by
  have hB' := hB
  obtain ⟨hs, -, hv, hc, -⟩ := hB'
  have bn := VRn hv
  unfold VN at bn
  have ci := PB_ci hB hg2
  obtain ⟨S1, e1, F1, y1⟩ := stI S 326 0 (v := g) (by omega) (by omega)
  have hB1 : PB S1 M := PB_FG F1 (by unfold plC; omega) hB
  obtain ⟨S2, e2, F2, y2⟩ := stI S1 328 0 (v := ciM M g) (by omega) (by omega)
  have hB2 : PB S2 M := PB_FG F2 (by unfold plC; omega) hB1
  obtain ⟨S3, e3, F3, y3⟩ := stI S2 329 0 (v := 0) (by omega) (by omega)
  have hB3 : PB S3 M := PB_FG F3 (by unfold plC; omega) hB2
  have x3 : ∀ k, iI S3 341 k = iI S 341 k := fun k => by rw [FG_I F3 (by omega), FG_I F2 (by omega), FG_I F1 (by omega)]
  have x4 : ∀ k, iI S3 322 k = iI S 322 k := fun k => by rw [FG_I F3 (by omega), FG_I F2 (by omega), FG_I F1 (by omega)]
  obtain ⟨S', g1, g2, g3⟩ := X5_goal30 (fl := fl) (M := M) (g := g) (mc := mc) (by omega) hm0 hm2 (iI S 341 1).toNat 0 S3 fl hB3 (by rw [FG_I F3 (by omega), FG_I F2 (by omega)]; exact y1) (by rw [FG_I F3 (by omega), FG_I F2 (by omega), FG_I F1 (by omega)]; exact h2) (by rw [x3]; omega) (by omega) (by rw [y3]; rfl)
  rw [Nat.zero_add] at g1 g3
  refine ⟨S', ?_, FG_trans (FG_mono F1 (by omega)) (FG_trans (FG_mono F2 (by omega)) (FG_trans (FG_mono F3 (by omega)) (FG_mono g2 (by omega)))), ?_, ?_, g3⟩
  · have cq := X1_circuitOf (fl := fl) hB1.1 hB1.2.2.2.1 (p := g) (by rw [FG_I F1 (by omega)]; exact hg2) (by rw [FG_I F1 (by omega)]; omega)
    rw [FG_I F1 (by omega), ← ci.1] at cq
    unfold F_X5_chooseGoal
    rw [ld_321_6 hs, bd_some, gd_t (by decide), nx_eq]
    dsimp only
    rw [show pI S 326 (0 : Int32).toNatClampNeg (oI g) = S1 from e1, ld_321_8 hB1.1, bd_some, ld_321_0 hB1.1, bd_some, cq, bd_some, gd_t (by decide), nx_eq]
    dsimp only
    rw [show pI S1 328 (0 : Int32).toNatClampNeg (oI (ciM M g)) = S2 from e2, ld_321_9 hB2.1, bd_some, gd_t (by decide), nx_eq]
    dsimp only
    rw [show pI S2 329 (0 : Int32).toNatClampNeg 0 = S3 from e3, show (0 : Int32) = oI 0 from rfl, show oI (0 : Int) = oI ((0 : Nat) : Int) from rfl, g1]
    unfold ftP
    simp only [x3, x4]
    refine congrArg (fun z => some (z, S')) (oB_cg ?_)
    constructor
    · rintro ⟨z1, -, z2⟩; exact ⟨z1, z2⟩
    · rintro ⟨z1, z2⟩; exact ⟨z1, hg2, z2⟩
  · rw [FG_I g2 (by omega), FG_I F3 (by omega), FG_I F2 (by omega)]; exact y1
  · rw [FG_I g2 (by omega), FG_I F3 (by omega)]; exact y2
