abbrev mvO (M : Mem) (t : Nat → Int) (q p : Nat) : Prop := (q : Int) < iI M 341 1 ∧ (p : Int) < iI M 341 0 ∧ 0 ≤ t q ∧ iI M 341 3 ≤ iI M 341 (50 + 10 * q + 4) ∧ (p : Int) ≠ t q ∧ ftP M (iI M 341 (50 + 10 * q + 0)) (iI M 341 (50 + 10 * q + 1)) (iI M 341 (50 + 10 * q + 2)) (iI M 341 (50 + 10 * q + 3)) p
theorem oBs_t {p : Prop} [Decidable p] (h : p) (S : Mem) : some ((1 : Int32), S) = some (oB p, S) := congrArg (fun z => some (z, S)) (oB_t h).symm
theorem oBs_f {p : Prop} [Decidable p] (h : ¬ p) (S : Mem) : some ((0 : Int32), S) = some (oB p, S) := congrArg (fun z => some (z, S)) (oB_f h).symm
theorem X5_move76 {fl : Nat} {S M : Mem} (hB : PB S M) {k : Nat} (hk1 : 1 ≤ k) (hk2 : k ≤ 2) {q p : Nat} (hq : (q : Int) < iI S 341 1) (hp6 : p < 6) (h0q : 0 ≤ iI M 342 q) {mc w b : Int} (h2 : iI S 321 2 = mc) (m0 : 0 ≤ mc) (m2 : mc ≤ 2) (w0 : -100 ≤ w) (w1 : w ≤ 100) (b0 : 0 ≤ b) (b1 : b ≤ 1) {wb : Int32} (hwb : wb = oI b) :
    ∃ S', B_X5_chooseMove_76 fl 321 (oI k) (oI q) (oI p) (9 + q) 329 (oI k) (oI w) wb S = some (oB (((p : Int) < iI S 341 0 ∧ ftP S (iI S (9 + q) 0) (iI S (9 + q) 1) (iI S (9 + q) 2) (iI S (9 + q) 3) p) ∧ w - b ≤ mc - k), S') ∧ FG S S' (fun a j => 324 ≤ a ∧ a ≤ 329 ∧ j = k) ∧ (∀ j, j ≠ k → gR S' 323 j = gR S 323 j) ∧ iI S' 329 k = w - b ∧
      (((p : Int) < iI S 341 0 ∧ ftP S (iI S (9 + q) 0) (iI S (9 + q) 1) (iI S (9 + q) 2) (iI S (9 + q) 3) p) ∧ w - b ≤ mc - k → gR S' 323 k = some (9 + q) ∧ iI S' 324 k = q ∧ iI S' 325 k = iI M 342 q ∧ iI S' 326 k = p ∧ iI S' 327 k = ciM M (iI M 342 q) ∧ iI S' 328 k = ciM M p) := by
  have hB' := hB
  obtain ⟨hs, -, hv, hc, hL, hF, m3, m4, m5, m6, m7⟩ := hB'
  have bn := VRn hv
  unfold VN at bn
  have d := VRq hv hq
  unfold VQ at d
  have hld := PB_ld hB (q := q) (by omega) h0q
  have e := (hL.2.2 q (by omega)).1 hld
  subst hwb
  have tk : (oI (k : Int)).toNatClampNeg = k := by rw [oI_nat (by omega) (by omega), Int.toNat_natCast]
  obtain ⟨S1, e1, F1, y1⟩ := stI S 329 (oI (k : Int)).toNatClampNeg (v := w - b) (by omega) (by omega)
  rw [tk] at F1 y1
  have hB1 : PB S1 M := PB_FG F1 (by unfold plC; omega) hB
  have x1 : ∀ j, iI S1 341 j = iI S 341 j := fun j => FG_I F1 (by omega)
  have z1 : ∀ j, iI S1 (9 + q) j = iI S (9 + q) j := fun j => FG_I F1 (by omega)
  have inr3 : ∀ n : Nat, n = 3 → inR (oI (k : Int)) n := fun n hn => (oI_inR (by omega) (by omega)).mpr (by omega)
  have hf := X1_hasFit (fl := fl) hB1.1 hB1.2.2.2.1 hB1.2.2.1 (9 + q) hp6
  by_cases hw : w - b ≤ mc - k
  · by_cases hft : (p : Int) < iI S 341 0 ∧ ftP S (iI S (9 + q) 0) (iI S (9 + q) 1) (iI S (9 + q) 2) (iI S (9 + q) 3) p
    · have hft1 : (p : Int) < iI S1 341 0 ∧ ftP S1 (iI S1 (9 + q) 0) (iI S1 (9 + q) 1) (iI S1 (9 + q) 2) (iI S1 (9 + q) 3) p := by
        unfold ftP
        simp only [x1, z1]
        exact hft
      have ciq := PB_ci hB (p := (iI M 342 q).toNat) (by rw [e.1]; omega)
      rw [show (((iI M 342 q).toNat : Nat) : Int) = iI M 342 q by omega] at ciq
      have cip := PB_ci hB hft.1
      have c7 : iI S (9 + q) 7 = iI M 342 q := by rw [c_q7 hc hq, e.1]
      obtain ⟨S2, e2⟩ : ∃ S2, pR S1 323 (oI (k : Int)).toNatClampNeg (some (9 + q)) = S2 := ⟨_, rfl⟩
      have F2 : FG S1 S2 (fun a j => False) := by rw [← e2, tk]; exact FG_pR S1 k _ _ hk1
      have g2 : gR S2 323 k = some (9 + q) := by rw [← e2, tk, gR_p, if_pos ⟨rfl, rfl⟩]
      obtain ⟨S3, e3, F3, y3⟩ := stI S2 324 (oI (k : Int)).toNatClampNeg (v := q) (by omega) (by omega)
      rw [tk] at F3 y3
      obtain ⟨S4, e4, F4, y4⟩ := stI S3 325 (oI (k : Int)).toNatClampNeg (v := iI M 342 q) (by omega) (by omega)
      rw [tk] at F4 y4
      obtain ⟨S5, e5, F5, y5⟩ := stI S4 326 (oI (k : Int)).toNatClampNeg (v := p) (by omega) (by omega)
      rw [tk] at F5 y5
      obtain ⟨S6, e6, F6, y6⟩ := stI S5 327 (oI (k : Int)).toNatClampNeg (v := ciM M (iI M 342 q)) (by omega) (by omega)
      rw [tk] at F6 y6
      obtain ⟨S7, e7, F7, y7⟩ := stI S6 328 (oI (k : Int)).toNatClampNeg (v := ciM M p) (by omega) (by omega)
      rw [tk] at F7 y7
      have hB2 : PB S2 M := PB_FG F2 (fun _ _ h => h.elim) hB1
      have hB3 : PB S3 M := PB_FG F3 (by unfold plC; omega) hB2
      have hB4 : PB S4 M := PB_FG F4 (by unfold plC; omega) hB3
      have hB5 : PB S5 M := PB_FG F5 (by unfold plC; omega) hB4
      have hB6 : PB S6 M := PB_FG F6 (by unfold plC; omega) hB5
      have G : FG S S7 (fun a j => 324 ≤ a ∧ a ≤ 329 ∧ j = k) := FG_trans (FG_mono F1 (by omega)) (FG_trans (FG_mono F2 (fun _ _ h => h.elim)) (FG_trans (FG_mono F3 (by omega)) (FG_trans (FG_mono F4 (by omega)) (FG_trans (FG_mono F5 (by omega)) (FG_trans (FG_mono F6 (by omega)) (FG_mono F7 (by omega)))))))
      have x5 : ∀ j, iI S5 341 j = iI S 341 j := fun j => by rw [FG_I F5 (by omega), FG_I F4 (by omega), FG_I F3 (by omega), FG_I F2 (fun h => h), x1]
      have x6 : ∀ j, iI S6 341 j = iI S 341 j := fun j => by rw [FG_I F6 (by omega), x5]
      have w3 : gI S3 (9 + q) 7 = oI (iI M 342 q) := by rw [gI_oI, FG_I F3 (by omega), FG_I F2 (fun h => h), z1, c7]
      have w5 : gI S5 (9 + q) 7 = oI (iI M 342 q) := by rw [gI_oI, FG_I F5 (by omega), FG_I F4 (by omega), FG_I F3 (by omega), FG_I F2 (fun h => h), z1, c7]
      have cq := X1_circuitOf (fl := fl) hB5.1 hB5.2.2.2.1 (p := (iI M 342 q).toNat) (by rw [x5, e.1]; omega) (by rw [x5]; omega)
      rw [show (((iI M 342 q).toNat : Nat) : Int) = iI M 342 q by omega, x5, ← ciq.1] at cq
      have cp := X1_circuitOf (fl := fl) hB6.1 hB6.2.2.2.1 (p := p) (by rw [x6]; exact hft.1) (by rw [x6]; omega)
      rw [x6, ← cip.1] at cp
      have hR7 : ∀ j, gR S7 323 j = gR S2 323 j := fun j => by
        rw [← e7, ← e6, ← e5, ← e4, ← e3]
        rfl
      refine ⟨S7, ?_, G, fun j hj => ?_, ?_, fun _ => ⟨?_, ?_, ?_, ?_, ?_, y7⟩⟩
      · unfold B_X5_chooseMove_76
        rw [show aLen 329 0 = some 3 from rfl, bd_some, gd_t (inr3 3 rfl), nx_eq, oI_sub, e1, ld_321_9 hB1.1, bd_some, gd_t (inr3 3 rfl)]
        dsimp only
        rw [show gI S1 321 2 = oI mc from by rw [gI_oI, FG_I F1 (by omega), h2], show gI S1 329 (oI (k : Int)).toNatClampNeg = oI (w - b) from by rw [tk, gI_oI, y1], oI_sub, if_neg (by rw [oI_lt (by omega) (by omega) (by omega) (by omega)]; omega), ld_321_0 hB1.1, bd_some, hf, bd_some, ifB_t hft1, ld_321_3 hB1.1, bd_some, gd_t (inr3 3 rfl), nx_eq]
        dsimp only
        rw [e2, ld_321_4 hB2.1, bd_some, gd_t (inr3 3 rfl), nx_eq]
        dsimp only
        rw [e3, ld_321_5 hB3.1, bd_some, gd_t (inr3 3 rfl), nx_eq, w3]
        dsimp only
        rw [e4, ld_321_6 hB4.1, bd_some, gd_t (inr3 3 rfl), nx_eq]
        dsimp only
        rw [e5, ld_321_7 hB5.1, bd_some, ld_321_0 hB5.1, bd_some, w5, cq, bd_some, gd_t (inr3 3 rfl), nx_eq]
        dsimp only
        rw [e6, ld_321_8 hB6.1, bd_some, ld_321_0 hB6.1, bd_some, cp, bd_some, gd_t (inr3 3 rfl), nx_eq]
        dsimp only
        rw [e7]
        exact oBs_t ⟨hft, hw⟩ S7
      · rw [hR7, ← e2, tk, gR_p, if_neg (by omega), ← e1]; rfl
      · rw [FG_I F7 (by omega), FG_I F6 (by omega), FG_I F5 (by omega), FG_I F4 (by omega), FG_I F3 (by omega), FG_I F2 (fun h => h)]; exact y1
      · unfold gR at g2 ⊢
        rw [← e7, ← e6, ← e5, ← e4, ← e3]
        exact g2
      · rw [FG_I F7 (by omega), FG_I F6 (by omega), FG_I F5 (by omega), FG_I F4 (by omega)]; exact y3
      · rw [FG_I F7 (by omega), FG_I F6 (by omega), FG_I F5 (by omega)]; exact y4
      · rw [FG_I F7 (by omega), FG_I F6 (by omega)]; exact y5
      · rw [FG_I F7 (by omega)]; exact y6
    · have hft1 : ¬ ((p : Int) < iI S1 341 0 ∧ ftP S1 (iI S1 (9 + q) 0) (iI S1 (9 + q) 1) (iI S1 (9 + q) 2) (iI S1 (9 + q) 3) p) := by
        unfold ftP
        simp only [x1, z1]
        exact hft
      refine ⟨S1, ?_, FG_mono F1 (by omega), fun j _ => by rw [← e1]; rfl, y1, fun h => absurd h.1 hft⟩
      unfold B_X5_chooseMove_76
      rw [show aLen 329 0 = some 3 from rfl, bd_some, gd_t (inr3 3 rfl), nx_eq, oI_sub, e1, ld_321_9 hB1.1, bd_some, gd_t (inr3 3 rfl)]
      dsimp only
      rw [show gI S1 321 2 = oI mc from by rw [gI_oI, FG_I F1 (by omega), h2], show gI S1 329 (oI (k : Int)).toNatClampNeg = oI (w - b) from by rw [tk, gI_oI, y1], oI_sub, if_neg (by rw [oI_lt (by omega) (by omega) (by omega) (by omega)]; omega), ld_321_0 hB1.1, bd_some, hf, bd_some, ifB_f hft1]
      exact oBs_f (fun h => hft h.1) S1
  · refine ⟨S1, ?_, FG_mono F1 (by omega), fun j _ => by rw [← e1]; rfl, y1, fun h => absurd h.2 hw⟩
    unfold B_X5_chooseMove_76
    rw [show aLen 329 0 = some 3 from rfl, bd_some, gd_t (inr3 3 rfl), nx_eq, oI_sub, e1, ld_321_9 hB1.1, bd_some, gd_t (inr3 3 rfl)]
    dsimp only
    rw [show gI S1 321 2 = oI mc from by rw [gI_oI, FG_I F1 (by omega), h2], show gI S1 329 (oI (k : Int)).toNatClampNeg = oI (w - b) from by rw [tk, gI_oI, y1], oI_sub, if_pos (by rw [oI_lt (by omega) (by omega) (by omega) (by omega)]; omega)]
    exact oBs_f (fun h => hw h.2) S1
theorem X5_chooseMove {fl : Nat} {S M : Mem} (hB : PB S M) {g : Int} (hg : 0 ≤ g) (hg2 : g < 6) (h0 : iI S 326 0 = g) {k : Nat} (hk1 : 1 ≤ k) (hk2 : k ≤ 2) {q p : Nat} (hq : (q : Int) < iI S 341 1) (hp6 : p < 6) {mc w : Int} (h2 : iI S 321 2 = mc) (m0 : 0 ≤ mc) (m2 : mc ≤ 2) (hw : iI S 329 (k - 1) = w) (w0 : -100 ≤ w) (w1 : w ≤ 100) :
    ∃ S', F_X5_chooseMove fl 321 (oI k) (oI q) (oI p) S = some (oB (mvO M (iI M 342) q p ∧ w - bkH M g q ≤ mc - k), S') ∧ FG S S' (fun a j => 324 ≤ a ∧ a ≤ 329 ∧ j = k) ∧ (∀ j, j ≠ k → gR S' 323 j = gR S 323 j) ∧
      (mvO M (iI M 342) q p ∧ w - bkH M g q ≤ mc - k → gR S' 323 k = some (9 + q) ∧ iI S' 324 k = q ∧ iI S' 325 k = iI M 342 q ∧ iI S' 326 k = p ∧ iI S' 327 k = ciM M (iI M 342 q) ∧ iI S' 328 k = ciM M p ∧ iI S' 329 k = w - bkH M g q) := by
  have hB' := hB
  obtain ⟨hs, -, hv, hc, hL, hF, m3, m4, m5, m6, m7⟩ := hB'
  have bn := VRn hv
  unfold VN at bn
  have d := VRq hv hq
  unfold VQ at d
  have bb := bkH_bd M g q
  have st := X1_isStill (fl := fl) hc (9 + q)
  rw [c_q10 hc hq, c_q hc hq (by decide)] at st
  have e7 : gI S (9 + q) 7 = oI (iI S 341 (50 + 10 * q + 6)) := by rw [gI_oI, c_q7 hc hq]
  have hp := X1_hasPitch (fl := fl) hc (p := iI S 341 (50 + 10 * q + 6)) (by omega) (by omega)
  have iw := X5_inWay (fl := fl) hB hg hg2 h0 hq
  have head : ∀ f : Nat → Option (Int32 × Mem), (bd (ldO S 321 0 3) fun r53 => bd (ldA S r53 2 5) fun r55 => gd (inR (oI (q : Int)) r55.2) <| bd (ldO S r55.1 (oI (q : Int)).toNatClampNeg 5) fun r58 => f r58) = f (9 + q) := fun f => by
    rw [ld_321_0 hs, bd_some, ld_02 hs, bd_some]
    dsimp only
    rw [gd_t ((oI_inR (by omega) (by omega)).mpr (by omega)), ldQ hs (by omega), bd_some]
  by_cases c1 : iI S 341 (50 + 10 * q + 8) ≠ 0 ∧ iI S 341 3 ≤ iI S 341 (50 + 10 * q + 4)
  · have hld : ldB S (-1) q := ⟨hq, by omega, by omega⟩
    have e := (hL.2.2 q (by omega)).1 hld
    by_cases c2 : iI S 341 (50 + 10 * q + 6) = p
    · refine ⟨S, ?_, FG_refl _ _, fun _ _ => rfl, fun h => absurd h.1.2.2.2.2.1 (by rw [e.1]; omega)⟩
      unfold F_X5_chooseMove
      refine (head _).trans ?_
      rw [ld_321_0 hs, bd_some, st, bd_some, ifB_t c1, bd_some, e7, hp, bd_some, ifB_t (by omega), if_pos (congrArg oI c2)]
      exact oBs_f (fun h => absurd h.1.2.2.2.2.1 (by rw [e.1]; omega)) S
    · have hne : ¬ oI (iI S 341 (50 + 10 * q + 6)) = oI (p : Int) := fun z => c2 ((oI_eq (by omega) (by omega) (by omega) (by omega)).mp z)
      obtain ⟨S', g1, g2, gr, g3, g4⟩ := X5_move76 (fl := fl) hB hk1 hk2 hq hp6 (by rw [e.1]; omega) h2 m0 m2 w0 w1 bb.1 bb.2 (wb := oI (bkH M g q)) rfl
      have eft : ((p : Int) < iI S 341 0 ∧ ftP S (iI S (9 + q) 0) (iI S (9 + q) 1) (iI S (9 + q) 2) (iI S (9 + q) 3) p) ↔ mvO M (iI M 342) q p := by
        unfold mvO ftP
        rw [hL.1, hL.1, hL.1, hL.1, hL.1, hL.1, hL.1, hL.1, hL.1, hL.1, hL.1, hL.1, e.1, c_q hc hq (by decide), c_q hc hq (by decide), c_q hc hq (by decide), c_q hc hq (by decide)]
        constructor
        · rintro ⟨z1, z2⟩
          exact ⟨hq, z1, by omega, c1.2, fun z => c2 z.symm, z2⟩
        · rintro ⟨-, z1, -, -, -, z2⟩
          exact ⟨z1, z2⟩
      refine ⟨S', ?_, g2, gr, fun h => ?_⟩
      · unfold F_X5_chooseMove
        refine (head _).trans ?_
        rw [ld_321_0 hs, bd_some, st, bd_some, ifB_t c1, bd_some, e7, hp, bd_some, ifB_t (by omega), if_neg hne, ld_321_9 hs, bd_some, bd_some]
        dsimp only
        rw [show oI (k : Int) - 1 = oI ((k - 1 : Nat) : Int) from by rw [oI_lit, oI_sub]; congr 1; show (k : Int) - 1 = _; omega, gd_t ((oI_inR (by omega) (by omega)).mpr (by omega)), iw, bd_some, oI_nat (by omega) (by omega), Int.toNat_natCast, show gI S 329 (k - 1) = oI w from by rw [gI_oI, hw]]
        have g1' : B_X5_chooseMove_76 fl 321 (oI k) (oI q) (oI p) (9 + q) 329 (oI k) (oI w) (oI (bkH M g q)) S = some (oB (mvO M (iI M 342) q p ∧ w - bkH M g q ≤ mc - k), S') := g1.trans (congrArg (fun z => some (z, S')) (oB_cg (and_congr_left fun _ => eft)))
        by_cases hb : bkP M g q
        · rw [ifB_t hb]
          rw [show bkH M g q = 1 from if_pos hb] at g1' ⊢
          exact g1'
        · rw [ifB_f hb]
          rw [show bkH M g q = 0 from if_neg hb] at g1' ⊢
          exact g1'
      · obtain ⟨z1, z2, z3, z4, z5, z6⟩ := g4 ⟨eft.mpr h.1, h.2⟩
        exact ⟨z1, z2, z3, z4, z5, z6, g3⟩
  · have hnm : ¬ mvO M (iI M 342) q p := fun h => by
      have hld := PB_ld hB (q := q) (by omega) h.2.2.1
      have := h.2.2.2.1
      rw [hL.1, hL.1] at this
      unfold ldB at hld
      exact c1 ⟨by omega, this⟩
    refine ⟨S, ?_, FG_refl _ _, fun _ _ => rfl, fun h => absurd h.1 hnm⟩
    unfold F_X5_chooseMove
    refine (head _).trans ?_
    rw [ld_321_0 hs, bd_some, st, bd_some, ifB_f c1]
    exact oBs_f (fun h => hnm h.1) S
