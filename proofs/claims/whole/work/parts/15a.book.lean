theorem X8_findsG {fl : Nat} (hfl : 1000 ≤ fl) {M M' : Mem} (hs : RO M') (hM : MB M) (ag : AG M M') (e42 : ∀ q, q ≤ 12 → iI M' 342 q = iI M 342 q) {kd ln br : Int} (b1 : -2147483648 ≤ kd) (b2 : kd < 2147483648) (b3 : -2147483648 ≤ ln) (b4 : ln < 2147483648) (b5 : -2147483648 ≤ br) (b6 : br < 2147483648) :
    ∃ M2 r, F_X8_finds fl 340 (oI kd) (oI ln) (oI br) M' = some (r, M2) ∧ FI M' M2 fdC ∧ FR M M2 kd ln br r := by
  have bn := VRn hM.1
  unfold VN at bn
  have ga := X8_gapsOfAll (fl := fl) hfl hs (by rw [ag.1]; omega) (by rw [ag.1]; omega) (by rw [ag.1]; omega) (by rw [ag.1]; omega)
  have gb := gA_b (s := M') (by rw [ag.1]; omega)
  have eg : gA M' = gaT M (iI M 342) := by rw [gA_T, gaT_cg ag e42]
  obtain ⟨M1, e1⟩ : ∃ M1, pI M' 340 10 (oI (gA M')) = M1 := ⟨_, rfl⟩
  have F1 : FI M' M1 (fun k j => k = 340 ∧ j = 10) := by rw [← e1]; exact FI_p M' 340 10 _ ⟨rfl, rfl⟩
  have y1 : iI M1 340 10 = gaT M (iI M 342) := by rw [← e1, ← eg]; exact iI_pe (by omega) (by omega)
  have r1 := FI_RO F1 hs
  have a1 : AG M M1 := AG_trans ag (AG_FI F1 (by omega))
  obtain ⟨M2, n, x1, x2, x3, x4⟩ := X8_fit6 (fl := fl) hfl hM b1 b2 b3 b4 b5 b6 (iI M 341 0).toNat 0 0 M1 fl (by omega) (by omega) (by omega) r1 a1 ⟨fun j h => by omega, fun p h => by omega, fun j k h1 h2 => by omega⟩
  rw [Nat.zero_add] at x3 x4
  obtain ⟨M3, r, z1, z2, z3⟩ := X8_finds20 (fl := fl) hfl hM (kd := kd) (ln := ln) (br := br) (n := n) 3 0 M2 fl rfl (by omega) ⟨FI_RO x2 r1, AG_trans a1 (AG_FI x2 (by omega)), fun q hq => by rw [x2.2 _ _ (by omega), F1.2 _ _ (by omega), e42 q (by omega)], by rw [x2.2 _ _ (by omega), y1], by omega, x4⟩ (fun c' g a b h => by omega)
  refine ⟨M3, r, ?_, FI_trans (FI_mono F1 (by unfold fdC; omega)) (FI_trans (FI_mono x2 (by unfold fdC; omega)) (FI_mono z2 (fun _ _ z => Or.inl z))), z3⟩
  unfold F_X8_finds
  rw [ga, bd_some]
  dsimp only
  rw [nx_eq, e1, show F_X8_fitting fl 340 (oI kd) (oI ln) (oI br) M1 = _ from x1, bd_some]
  exact z1
-- the reference's ground for a new party
theorem gnd {fl : Nat} (hfl : 1000 ≤ fl) {S : Mem} (hs : RO S) (hv : VR (iI S 341)) {pw f n : Int} (p1 : 0 ≤ pw) (p2 : pw ≤ 16) (f1 : 0 ≤ f) (n1 : 1 ≤ n) (n2 : n ≤ 14) (fn : f + n ≤ 60) :
    ∃ M0, LT S M0 (iI M0 342) (-1) ∧ vF M0 ∧ iI M0 343 12 = f ∧ iI M0 344 12 = n ∧ iI M0 345 12 = pw ∧ MB M0 ∧ ∀ s', RO s' → (∀ k, iI s' 341 k = iI S 341 k) → ∃ M1, F_X8_loads fl 340 (-1) s' = some M1 ∧ F_X8_comes fl 340 (oI pw) (oI f) (oI n) M1 = some (cm3 M1 pw f n) ∧ FI s' (cm3 M1 pw f n) (fun k j => 342 ≤ k ∧ k ≤ 345 ∧ j ≤ 12) ∧ RO (cm3 M1 pw f n) ∧ AG M0 (cm3 M1 pw f n) ∧ ∀ q, q ≤ 12 → iI (cm3 M1 pw f n) 342 q = iI M0 342 q := by
  have bn := VRn hv
  unfold VN at bn
  obtain ⟨ML, g1, g2, g3⟩ := X8_loadsS (fl := fl) hfl hs hv (w := -1) (by omega) (by omega)
  have hF := LDs_vF hv g3
  have hL := LDs_LT hv g3
  have hpl := fun q (hq : q ≤ 12) => LDs_pl hv g3 hq
  have cF := cm3_FI ML pw f n
  obtain ⟨c1, c2, c3⟩ := cm3_v (s := ML) (p := pw) (f := f) (n := n) (by omega) (by omega) (by omega) (by omega) (by omega) (by omega)
  have e42 : ∀ q, iI (cm3 ML pw f n) 342 q = iI ML 342 q := fun q => cF.2 _ _ (by omega)
  have eq : ∀ k q, q < 12 → iI (cm3 ML pw f n) k q = iI ML k q := fun k q hq => cF.2 _ _ (by omega)
  have e41 : ∀ k, iI (cm3 ML pw f n) 341 k = iI ML 341 k := fun q => cF.2 _ _ (by omega)
  have hF0 : vF (cm3 ML pw f n) := by
    intro q hq
    by_cases h : q = 12
    · subst h; rw [c1, c2, c3]; omega
    · rw [eq 343 q (by omega), eq 344 q (by omega), eq 345 q (by omega)]; exact hF q hq
  refine ⟨cm3 ML pw f n, ⟨fun k => by rw [e41]; exact hL.1 k, by rw [e42]; exact hL.2.1, fun q hq => ?_⟩, hF0, c1, c2, c3, ⟨by rw [show iI (cm3 ML pw f n) 341 = iI S 341 from funext fun k => by rw [e41]; exact hL.1 k]; exact hv, hF0, by omega, fun q hq => by rw [e42, e41, hL.1]; have := hpl q hq; omega⟩, fun s' h1 h2 => ?_⟩
  · rw [e42, eq 343 q hq, eq 344 q hq, eq 345 q hq]; exact hL.2.2 q hq
  · obtain ⟨M1, k1, k2, k3⟩ := X8_loadsS (fl := fl) hfl h1 (by rw [show iI s' 341 = iI S 341 from funext h2]; exact hv) (w := -1) (by omega) (by omega)
    have r1 := FI_RO k2 h1
    have dF := cm3_FI M1 pw f n
    obtain ⟨d1, d2, d3⟩ := cm3_v (s := M1) (p := pw) (f := f) (n := n) (by omega) (by omega) (by omega) (by omega) (by omega) (by omega)
    obtain ⟨a1, a2⟩ := LDs_AG g3 k3 h2
    have dq : ∀ k q, q < 12 → iI (cm3 M1 pw f n) k q = iI M1 k q := fun k q hq => dF.2 _ _ (by omega)
    refine ⟨M1, by rw [m1_o]; exact k1, X8_comes r1 pw f n, FI_trans k2 (FI_mono dF (by omega)), FI_RO dF r1, ⟨fun k => by rw [dF.2 341 k (by omega), a1.1 k, e41], fun q hq => ?_⟩, fun q hq => by rw [dF.2 342 q (by omega), a2 q hq, e42]⟩
    by_cases h : q = 12
    · subst h; exact ⟨d1.trans c1.symm, d2.trans c2.symm, d3.trans c3.symm⟩
    · rw [dq 343 q (by omega), dq 344 q (by omega), dq 345 q (by omega), eq 343 q (by omega), eq 344 q (by omega), eq 345 q (by omega)]; exact a1.2 q hq
