-- a booking on the class
def CB (S2 S5 M0 : Mem) (W D : Nat → Nat) (c x : Nat) (kd ln br pw f n : Int) : Prop :=
  (∀ k j, k ≤ 26 → ¬ (k = 0 ∧ j = 3 ∨ k = 9 + x ∨ j = 7 ∧ ∃ i, 1 ≤ i ∧ i ≤ c ∧ k = 9 + W i) → iI S5 k j = iI S2 k j) ∧ (∀ k, k ≤ 26 → k ≠ 9 + x → gL S5 k 6 = gL S2 k 6) ∧ (∀ i, 1 ≤ i → i ≤ c → iI S5 (9 + W i) 7 = D i) ∧
  (iI S5 (9 + x) 0 = kd ∧ iI S5 (9 + x) 1 = ln ∧ iI S5 (9 + x) 2 = br ∧ iI S5 (9 + x) 3 = pw ∧ iI S5 (9 + x) 4 = f ∧ iI S5 (9 + x) 5 = n ∧ gL S5 (9 + x) 6 = mI f n ∧ iI S5 (9 + x) 7 = D 0 ∧ iI S5 (9 + x) 8 = (iI S2 341 (8 + 5 * D 0 + 4) + pw) * n ∧ iI S5 (9 + x) 9 = 0 ∧ iI S5 (9 + x) 10 = 1 ∧ iI S5 0 3 = ((x + 1 : Nat) : Int)) ∧
  iI S5 320 7 = c ∧ ∀ i, 1 ≤ i → i ≤ c → iI S5 339 (3 * (i - 1)) = W i ∧ iI S5 339 (3 * (i - 1) + 1) = iI M0 342 (W i) ∧ iI S5 339 (3 * (i - 1) + 2) = D i
theorem book_cl {fl : Nat} (hfl : 1000 ≤ fl) {s S1 S2 M0 : Mem} (hI : InvB s) {kd ln br pw f n : Int} (hV : VA s kd ln br pw f n) {x : Nat} (hx : iI s 341 1 = x) (hx12 : x < 12) (hS : BS fl s S1 S2 M0 kd ln br pw f n 1) {W D : Nat → Nat} {c : Nat} (hSL : SL S2 M0 W D c) (h24 : ∀ i, 1 ≤ i → i ≤ c → iI S2 324 i = W i) :
    ∃ S3 S5 cc mm, F_X7_book fl 320 (oI kd) (oI ln) (oI br) (oI pw) (oI f) (oI n) s = some (.inr (oI x), S5) ∧ InvB S2 ∧ Hist S2 cc mm ∧ FG S2 S3 (kpC mm) ∧ iI S3 334 1 = ((mm + 1) % 8 : Nat) ∧ iI S3 334 2 = ((if cc = 8 then 8 else cc + 1 : Nat) : Int) ∧ CR S3 (64 + 32 * mm) (iI S2 341) ∧ FG S3 S5 (fun k j => k ≤ 26 ∨ k = 320 ∧ j = 7 ∨ k = 339) ∧ CB S2 S5 M0 W D c x kd ln br pw f n ∧ (∀ i, 1 ≤ i → i ≤ c → W i < x) := by
  have hI' := hI
  obtain ⟨hs, hcs, ⟨hv, hc⟩, -⟩ := hI'
  have bn := VRn hv
  unfold VN at bn
  obtain ⟨x1, x2, x3, hPB, hM, h12, y1, y2, y3, hg⟩ := hS
  have hV' := hV
  obtain ⟨v1, v2, v3, v4, v5, v6⟩ := hV'
  have hP2 : PB S2 M0 := PB_FG y2 (fun _ _ z => z) hPB
  have Fs2 : FG s S2 ctC := FG_trans (FG_mono x2 (fun k j z => Or.inl (sc_322 _ _ z))) (FG_mono y2 (fun k j z => Or.inl (pl_sc _ _ z)))
  have hI2 : InvB S2 := InvB_ct Fs2 hI
  have hI2' := hI2
  obtain ⟨hs2, hcs2, ⟨hv2, hc2⟩, ⟨cc, mm, hh⟩, -⟩ := hI2'
  have n41 : ∀ k, iI S2 341 k = iI s 341 k := fun k => by rw [FG_I y2 (by unfold plC; omega), FG_I x2 (by omega)]
  have n22 : ∀ j, iI S2 322 j = iI S1 322 j := fun j => FG_I y2 (by unfold plC; omega)
  obtain ⟨s1, s2, s3, s4, s5, s6⟩ := hSL
  obtain ⟨S3, k1, F3, k3, k4, k5⟩ := X2_keep (fl := fl) hfl hs2 hc2 hv2 hh
  have hs3 := FG_RO F3 hs2
  have rf3 := SR_keep k1
  have c3 : ∀ k j, (k ≤ 26 ∨ 320 ≤ k ∧ k ≠ 334) → iI S3 k j = iI S2 k j := fun k j hk => FG_I F3 (by have := hh.1.2.2.2.2; unfold kpC cpC; omega)
  have c3L : ∀ k j, (k ≤ 26 ∨ 320 ≤ k ∧ k ≠ 334) → gL S3 k j = gL S2 k j := fun k j hk => FG_L F3 (by have := hh.1.2.2.2.2; unfold kpC cpC; omega)
  have hD : ∀ i, i ≤ c → D i < 6 ∧ (D i : Int) < iI S2 341 0 ∧ iI S2 326 i = D i := fun i hi => by
    obtain ⟨a, b, -⟩ := s5 i hi
    have := n41 0
    exact ⟨by omega, a, b⟩
  have hWx : ∀ i, 1 ≤ i → i ≤ c → W i < x := fun i i1 i2 => by
    obtain ⟨a, b, -⟩ := s6 i i1 i2
    have := (PB_ld hP2 a b).1
    have := n41 1
    omega
  obtain ⟨S4, w1, w2, w3, w4⟩ := X5_writeL (fl := fl) (a := fun i => (W i : Int)) (b := fun i => iI M0 342 (W i)) (d := fun i => (D i : Int)) s2 (fun i i1 i2 => by
    obtain ⟨a, b, -⟩ := s6 i i1 i2
    have := (PB_pl hP2 (q := W i) (by omega)).2
    have := n41 0
    have := (hD i i2).1
    show -1 ≤ (W i : Int) ∧ (W i : Int) < 100 ∧ -1 ≤ iI M0 342 (W i) ∧ iI M0 342 (W i) < 100 ∧ -1 ≤ (D i : Int) ∧ (D i : Int) < 100
    omega) c 1 S3 fl (by omega) (by omega) (by omega) hs3 (by rw [c3 _ _ (by omega)]; exact s1) (fun i i1 i2 => by
    rw [c3 _ _ (by omega), c3 _ _ (by omega), c3 _ _ (by omega)]
    exact ⟨h24 i i1 i2, (s6 i i1 i2).2.2.2.1, (hD i i2).2.2⟩) (fun i i1 i2 => by omega)
  have hs4 := FG_RO w2 hs3
  obtain ⟨S4', e4, F4, z4⟩ := stI S4 320 7 (v := (c : Int)) (by omega) (by omega)
  have hs4' := FG_RO F4 hs4
  have rf4 : ∀ j, gR S4' 323 j = gR S2 323 j := fun j => by
    rw [← e4]
    exact (w3 j).trans (rf3 323 j)
  have c4 : ∀ k j, (k ≤ 26 ∨ 321 ≤ k ∧ k ≠ 334 ∧ k ≠ 339) → iI S4' k j = iI S2 k j := fun k j hk => by rw [FG_I F4 (by omega), FG_I w2 (by omega), c3 k j (by omega)]
  have c4L : ∀ k j, (k ≤ 26 ∨ 321 ≤ k ∧ k ≠ 334 ∧ k ≠ 339) → gL S4' k j = gL S2 k j := fun k j hk => by rw [FG_L F4 (by omega), FG_L w2 (by omega), c3L k j (by omega)]
  obtain ⟨S4c, g1, g2, g3⟩ := X5_carryL (fl := fl) (W := W) (D := D) s2 (fun i j i1 i2 j1 j2 z => s4 i j i2 j2 z) c 1 S4' fl (by omega) (by omega) (by omega) hs4' (by rw [c4 _ _ (by omega)]; exact s1) (by rw [c4 _ _ (by omega)]; exact (hD 0 (by omega)).2.2) (fun i i1 i2 => by
    rw [rf4, c4 _ _ (by omega)]
    exact ⟨(s6 i i1 i2).1, (hD i i2).1, (s6 i i1 i2).2.2.1, (hD i i2).2.2⟩)
  have nW : ∀ k j, j ≠ 7 → ¬ (j = 7 ∧ ∃ i, 1 ≤ i ∧ i ≤ c ∧ k = 9 + W i) := fun k j hj z => hj z.1
  have nK : ∀ k j, (k < 9 ∨ 21 ≤ k) → ¬ (j = 7 ∧ ∃ i, 1 ≤ i ∧ i ≤ c ∧ k = 9 + W i) := fun k j hk z => by
    obtain ⟨-, i, i1, i2, z⟩ := z
    have := (s6 i i1 i2).1
    omega
  have dp := VRp hv2 (p := D 0) (hD 0 (by omega)).2.1
  unfold VP at dp
  obtain ⟨np, hnp⟩ : ∃ np : Nat, iI S2 341 0 = np := ⟨(iI S2 341 0).toNat, by have := n41 0; omega⟩
  have hR0 : 1 ≤ iI S2 341 (8 + 5 * D 0 + 4) ∧ iI S2 341 (8 + 5 * D 0 + 4) ≤ 99 := by omega
  have pr0 : 0 ≤ (iI S2 341 (8 + 5 * D 0 + 4) + pw) * n := Int.mul_nonneg (by omega) (by omega)
  have pr1 : (iI S2 341 (8 + 5 * D 0 + 4) + pw) * n ≤ 2000 := Int.le_trans (Int.mul_le_mul (c := 115) (d := 14) (by omega) (by omega) (by omega) (by omega)) (by decide)
  obtain ⟨k0', k1', k2', k3', k4', k5', k6', k7', k8', k9', k10'⟩ := x3
  have e22 : ∀ j, j ≠ 7 → iI S4c 322 j = iI S1 322 j := fun j hj => by rw [FG_I g2 (nW _ _ hj), c4 _ _ (by omega), n22]
  obtain ⟨S5, p1, p2, p3, p4, p5, p6, p7, p8, p9⟩ := X1_makeParty (fl := fl) (S := S4c) (FG_RO g2 hs4') (x := x) (g := D 0) (np := np) (by rw [FG_I g2 (nW _ _ (by omega)), c4 _ _ (by omega), c_qc hc2, n41, hx]) hx12 (by rw [FG_I g2 (nW _ _ (by omega)), c4 _ _ (by omega), c_pc hc2, hnp]) (by have := (hD 0 (by omega)).2.1; omega) (by have := n41 0; omega) (R := iI S2 341 (8 + 5 * D 0 + 4)) (f := f) (n := n) (pw := pw) (by rw [FG_I g2 (nW _ _ (by omega)), c4 _ _ (by have := (hD 0 (by omega)).1; omega), c_p hc2 (hD 0 (by omega)).2.1 (by omega)]) (by rw [e22 _ (by omega)]; exact k3') (by rw [e22 _ (by omega)]; exact k4') (by rw [e22 _ (by omega)]; exact k5') (by rw [FG_L g2 (nW _ _ (by omega)), c4L _ _ (by omega), FG_L y2 (by unfold plC; omega)]; exact k6') (by rw [e22 _ (by omega)]; exact k10') pr0 pr1
  have hcl := ((X7_bookG (fl := fl) hs hc (by omega) (by omega) (by omega) (by omega) (kd := kd) (ln := ln) (br := br) (pw := pw) (f := f) (n := n) (by omega) (by omega) (by omega) (by omega) (by omega) (by omega) (by omega) (by omega) (by omega) (by omega) (by omega) (by omega)).2.2 hV (by omega) S1 S2 1 x1 hPB.1 y1 hs2).2 rfl S3 S4 (oI c) S5 (oI x) k1 hs3 w1 (by
    rw [e4]
    refine Eq.trans (show F_X5_carryOut fl 321 S4' = B_X5_carryOut_2 fl fl 321 (oI ((1 : Nat) : Int)) S4' from rfl) (g1.trans ?_)
    rw [p1, bd_some]) hs4
  refine ⟨S3, S5, cc, mm, hcl, hI2, hh, F3, k3, k4, k5, FG_trans (FG_mono w2 (fun k j z => Or.inr (Or.inr z))) (FG_trans (FG_mono F4 (fun k j z => Or.inr (Or.inl z))) (FG_trans (FG_mono g2 (fun k j z => ?_)) (FG_mono p2 (fun k j z => Or.inl (by omega))))), ⟨fun k j hk hn => ?_, fun k hk hn => ?_, fun i i1 i2 => ?_, ⟨?_, ?_, ?_, ?_, ?_, ?_, p4, p5, p6, ?_, p8, p9⟩, ?_, fun i i1 i2 => ?_⟩, hWx⟩
  · obtain ⟨-, i, i1, i2, z⟩ := z
    have := (s6 i i1 i2).1
    exact Or.inl (by omega)
  · rw [FG_I p2 (fun z => hn (by omega)), FG_I g2 (fun z => hn (Or.inr (Or.inr z))), c4 k j (by omega)]
  · rw [FG_L p2 (fun z => by omega), FG_L g2 (nW _ _ (by omega)), c4L k 6 (by omega)]
  · have := hWx i i1 i2
    rw [FG_I p2 (by omega)]
    exact g3 i i1 i2
  · rw [p3 0 (by omega), e22 _ (by omega)]; exact k0'
  · rw [p3 1 (by omega), e22 _ (by omega)]; exact k1'
  · rw [p3 2 (by omega), e22 _ (by omega)]; exact k2'
  · rw [p3 3 (by omega), e22 _ (by omega)]; exact k3'
  · rw [p3 4 (by omega), e22 _ (by omega)]; exact k4'
  · rw [p3 5 (by omega), e22 _ (by omega)]; exact k5'
  · rw [p7, e22 _ (by omega)]; exact k9'
  · rw [FG_I p2 (by omega), FG_I g2 (nK _ _ (by omega))]; exact z4
  · have := w4 i i1 i2
    rw [FG_I p2 (by omega), FG_I g2 (nK _ _ (by omega)), FG_I F4 (by omega), FG_I p2 (by omega), FG_I g2 (nK _ _ (by omega)), FG_I F4 (by omega), FG_I p2 (by omega), FG_I g2 (nK _ _ (by omega)), FG_I F4 (by omega)]
    exact this
