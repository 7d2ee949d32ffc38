theorem book_yes {fl : Nat} (hfl : 1000 ≤ fl) {s S1 S2 M0 : Mem} (hI : InvB s) {kd ln br pw f n : Int} (hV : VA s kd ln br pw f n) {x : Nat} (hx : iI s 341 1 = x) (hx12 : x < 12) (hS : BS fl s S1 S2 M0 kd ln br pw f n 1) :
    ∃ s1 w, F_X7_book fl 320 (oI kd) (oI ln) (oI br) (oI pw) (oI f) (oI n) s = some (.inr w, s1) ∧ FG s s1 bkC ∧ ∀ u, FG s1 u ctC → ∃ s2, F_X8_book fl 340 (oI kd) (oI ln) (oI br) (oI pw) (oI f) (oI n) u = some (w, s2) ∧ FG u s2 rbC ∧ iI s2 340 0 = 0 ∧ InvB s2 := by
  have hS' := hS
  obtain ⟨x1, x2, x3, hPB, hM, h12, y1, y2, y3, hg⟩ := hS'
  obtain ⟨c, g, k1, k2, hbst, hSL, h24⟩ : ∃ c g k1 k2 : Nat, Bst M0 (ftM M0 kd ln br) c g k1 k2 ∧ SL S2 M0 (W2 k1 k2) (D2 g k1 k2) c ∧ ∀ i, 1 ≤ i → i ≤ c → iI S2 324 i = W2 k1 k2 i := by
    rcases y3 with ⟨-, c, g, k1, k2, b1, b2, b3⟩ | ⟨z, -⟩
    · exact ⟨c, g, k1, k2, b1, b2, b3⟩
    · exact absurd z (by decide)
  obtain ⟨S3, S5, cc, mm, hcl, hI2, hh, F3, k3, k4, k5, F5, hCB, hWx⟩ := book_cl hfl hI hV hx hx12 hS hSL h24
  have m8 := hh.1.2.2.2.2
  have hRC := hbst.2.2.2.1.1.2.2
  have hP2 : PB S2 M0 := PB_FG y2 (fun _ _ z => z) hPB
  have c2 := hbst.1
  have hD0 : D2 g k1 k2 0 = g := rfl
  have hgp := hbst.2.1
  obtain ⟨-, -, W0, Winj, sD, sW⟩ := hSL
  generalize hW : W2 k1 k2 = W at *
  generalize hD : D2 g k1 k2 = D at *
  have hV' := hV
  obtain ⟨v1, v2, v3, v4, v5, v6⟩ := hV'
  have hI2' := hI2
  obtain ⟨hs2, -, hC2, -⟩ := hI2'
  have bn2 := VRn hC2.1
  unfold VN at bn2
  have n41 : ∀ k, iI S2 341 k = iI s 341 k := fun k => by rw [FG_I y2 (by unfold plC; omega), FG_I x2 (by omega)]
  have eM : ∀ k, iI M0 341 k = iI S2 341 k := hP2.2.2.2.2.1.1
  have hF := hP2.2.2.2.2.2.1
  refine ⟨S5, oI x, hcl, ?_, fun u Fu => ?_⟩
  · refine FG_trans (FG_mono x2 (fun k j z => Or.inr (Or.inr (Or.inl (by omega))))) (FG_trans (FG_mono y2 (fun k j z => pl_bk _ _ z)) (FG_trans (FG_mono F3 (fun k j z => ?_)) (FG_mono F5 (fun k j z => ?_))))
    · unfold kpC cpC at z; unfold bkC; omega
    · unfold bkC; omega
  have hu := FG_RO Fu (FG_RO F5 (FG_RO F3 hs2))
  have n5 : ∀ k j, (k = 341 ∨ k = 340 ∧ j = 2) → iI S5 k j = iI S2 k j := fun k j hk => by rw [FG_I F5 (by omega), FG_I F3 (by unfold kpC cpC; omega)]
  have u41 : ∀ k, iI u 341 k = iI S2 341 k := fun k => by rw [FG_I Fu (by unfold ctC scC; omega), n5 _ _ (by omega)]
  have hVu : VA u kd ln br pw f n := by unfold VA; rw [u41, n41]; exact hV
  have q1 := n41 1
  have hrf := (X8_bookG (fl := fl) hu (by rw [u41]; omega) (by rw [u41]; omega) (kd := kd) (ln := ln) (br := br) (pw := pw) (f := f) (n := n) (by omega) (by omega) (by omega) (by omega) (by omega) (by omega) (by omega) (by omega) (by omega) (by omega) (by omega) (by omega)).1 hVu
  rw [X8_88 hu (by rw [u41]; omega) (by rw [u41]; omega)] at hrf
  obtain ⟨m0, a0, A0⟩ : ∃ m, pI u 340 0 0 = m ∧ FI u m (fun k j => k = 340 ∧ j = 0) := ⟨_, rfl, FI_p _ _ _ _ ⟨rfl, rfl⟩⟩
  have th0 : iI m0 340 0 = 0 := by rw [← a0]; exact th_z u
  obtain ⟨M1, l1, l2, l3, l4, l5, l6⟩ := hg m0 (FI_RO A0 hu) (fun k => by rw [A0.2 _ _ (by omega), u41, n41])
  obtain ⟨m2, r', w1, w2, w3⟩ := X8_findsG (fl := fl) hfl l4 hM l5 l6 (kd := kd) (ln := ln) (br := br) (by omega) (by omega) (by omega) (by omega) (by omega) (by omega)
  have hr' := (BR_FR y3 w3).1
  subst hr'
  have hRS : RSt M0 m2 (PT M0 W D c) c (fun i => W (i + 1)) := by
    rcases w3 with ⟨-, c', g', a, b, d1, d2⟩ | ⟨z, -⟩
    · obtain ⟨rfl, rfl, rfl, rfl⟩ := Bst_u hbst d1
      rw [hW, hD] at d2
      exact d2
    · exact absurd z (by decide)
  obtain ⟨r1, r2, r3, r4, r5, r6⟩ := hRS
  have Fm : FI u m2 (fun k j => k = 340 ∧ j = 0 ∨ fdC k j ∨ 342 ≤ k ∧ k ≤ 345) := FI_trans (FI_mono A0 (by omega)) (FI_trans (FI_mono l3 (by omega)) (FI_mono w2 (fun k j z => Or.inr (Or.inl z))))
  have m41 : ∀ k, iI m2 341 k = iI S2 341 k := fun k => by rw [Fm.2 _ _ (by unfold fdC rsC; omega), u41]
  have e2 : iI m2 340 2 = cc := by rw [Fm.2 _ _ (by unfold fdC rsC; omega), FG_I Fu (by unfold ctC scC; omega), n5 _ _ (by omega)]; exact hh.1.2.2.1
  obtain ⟨m3, g1, g2⟩ := X8_keeps (fl := fl) hfl r1 e2 hh.1.2.2.2.1
  have r31 := FI_RO g2.1 r1
  have K3 := g2.1
  obtain ⟨m4, a4, A4, y4⟩ : ∃ m, pI m3 340 15 (oI (c : Int)) = m ∧ FI m3 m (fun k j => k = 340 ∧ j = 15) ∧ iI m 340 15 = c := ⟨_, rfl, FI_p _ _ _ _ ⟨rfl, rfl⟩, iI_pe (by omega) (by omega)⟩
  have r41 := FI_RO A4 r31
  have t41 : ∀ k, k < 170 → iI m4 341 k = iI S2 341 k := fun k hk => by rw [A4.2 _ _ (by omega), K3.2 _ _ (by omega), m41]
  have t40 : ∀ k j, (k = 342 ∨ k = 346 ∨ k = 340 ∧ j = 11) → iI m4 k j = iI m2 k j := fun k j hk => by rw [A4.2 _ _ (by omega), K3.2 _ _ (by omega)]
  have hTW : ∀ i, i ≤ c → PT M0 W D c (W i) = D i := fun i hi => PLC_m (t := iI M0 342) (D := D) Winj (c + 1) i (by omega) (by omega)
  have hMW : ∀ i, 1 ≤ i → i ≤ c → iI S2 341 (50 + 10 * W i + 6) = iI M0 342 (W i) := fun i i1 i2 => by
    obtain ⟨a, b, -⟩ := sW i i1 i2
    exact ((hP2.2.2.2.2.1.2.2 (W i) a).1 (PB_ld hP2 a b)).1.symm
  obtain ⟨m5, b1, B5, b3, b4⟩ := X8_bookL (fl := fl) (W := W) (o := fun i => iI M0 342 (W i)) (T := PT M0 W D c) c2 (fun i j i1 i2 j1 j2 z => Winj i j i2 j2 z) (fun i i1 i2 => (sW i i1 i2).1) (v1 := oI kd) (v2 := oI ln) (v3 := oI br) (v4 := oI pw) (v5 := oI f) (v6 := oI n) c 0 m4 (fl - c - 1 + 1) (by omega) r41 (by rw [t40 _ _ (by omega), r5]) (fun j hj => by rw [t40 _ _ (by omega), r6 j hj]) (fun q hq => by rw [t40 _ _ (by omega), r3 q hq]) (fun j j1 j2 => by
    have := hWx (j + 1) (by omega) (by omega)
    rw [t41 _ (by omega)]; exact hMW (j + 1) (by omega) (by omega))
  have nB : ∀ j, (∀ i, 1 ≤ i → i ≤ c → j ≠ 50 + 10 * W i + 6) → iI m5 341 j = iI m4 341 j := fun j hj => B5.2 _ _ (by
    rintro (z | ⟨-, r, z1, z2, z3⟩)
    · omega
    · exact hj (r + 1) (by omega) (by omega) z3)
  have n5' : ∀ k j, k ≠ 348 → k ≠ 341 → iI m5 k j = iI m4 k j := fun k j h1 h2 => B5.2 _ _ (by
    rintro (z | ⟨z, -⟩)
    · exact h1 z
    · exact h2 z)
  have dp := VRp hC2.1 (p := g) (by rw [← eM]; exact hgp)
  unfold VP at dp
  have hgp2 : (g : Int) < iI S2 341 0 := by rw [← eM]; exact hgp
  have hR0 : 1 ≤ iI S2 341 (8 + 5 * g + 4) ∧ iI S2 341 (8 + 5 * g + 4) ≤ 99 := by omega
  have pr0 : 0 ≤ (iI S2 341 (8 + 5 * g + 4) + pw) * n := Int.mul_nonneg (by omega) (by omega)
  have pr1 : (iI S2 341 (8 + 5 * g + 4) + pw) * n ≤ 2000 := Int.le_trans (Int.mul_le_mul (c := 115) (d := 14) (by omega) (by omega) (by omega) (by omega)) (by decide)
  have hW50 : ∀ i, 1 ≤ i → i ≤ c → W i < x := hWx
  obtain ⟨s6, p1, P6, p2, p3, p4, p5, p6, p7, p8, p9, p10, p11, p12⟩ := X8_bookEnd (fl := fl) (f := fl - c - 1) (FI_RO B5 r41) (x := x) (g := g) (c := c) (by rw [nB 1 (fun i _ _ => by omega), t41 _ (by omega)]; omega) hx12 (by rw [n5' _ _ (by omega) (by omega), t40 _ _ (by omega), r5]) c2 (by
    rw [n5' _ _ (by omega) (by omega), t40 _ _ (by omega), r3 12 (by omega), ← W0, hTW 0 (by omega), hD0]) (by omega) (R := iI S2 341 (8 + 5 * g + 4)) (kd := kd) (ln := ln) (br := br) (pw := pw) (ff := f) (n := n) (by rw [nB _ (fun i _ _ => by omega), t41 _ (by omega)]) pr0 pr1 (by omega) (by omega) (by omega) (by omega) (by omega) (by omega) (by omega) (by omega) (by omega) (by omega) (by omega) (by omega)
  -- the row afterwards
  have row : ∀ k, k < 170 → k ≠ 1 → ¬ (50 + 10 * x ≤ k ∧ k < 50 + 10 * x + 10) → (∀ i, 1 ≤ i → i ≤ c → k ≠ 50 + 10 * W i + 6) → iI s6 341 k = iI S2 341 k := fun k h1 h2 h3 h4 => by
    rw [P6.2 _ _ (by omega), nB k h4, t41 k h1]
  have rowW : ∀ i, 1 ≤ i → i ≤ c → iI s6 341 (50 + 10 * W i + 6) = D i := fun i i1 i2 => by
    have := hWx i i1 i2
    have h4 := (b4 (i - 1) (by omega) (by omega)).2.2.2
    rw [show i - 1 + 1 = i by omega] at h4
    rw [P6.2 _ _ (by omega), h4, hTW i i2]
  have c6 : ∀ k j, k ≤ 339 → ctC k j = False ∨ k ≤ 26 ∨ k = 339 ∨ k = 320 → (k ≤ 26 ∨ k = 339 ∨ k = 320) → iI s6 k j = iI S5 k j ∧ gL s6 k j = gL S5 k j := fun k j h1 _ h2 => by
    refine ⟨?_, ?_⟩
    · rw [P6.2 _ _ (by omega), n5' _ _ (by omega) (by omega), A4.2 _ _ (by omega), K3.2 _ _ (by omega), Fm.2 _ _ (by unfold fdC rsC; omega), FG_I Fu (by unfold ctC scC; omega)]
    · rw [FI_L P6, FI_L B5, FI_L A4, FI_L K3, FI_L Fm, FG_L Fu (by unfold ctC scC; omega)]
  have c6' : ∀ k j, (k ≤ 26 ∨ k = 339 ∨ k = 320) → iI s6 k j = iI S5 k j ∧ gL s6 k j = gL S5 k j := fun k j h => c6 k j (by omega) (Or.inr h) h
  obtain ⟨cb1, cb2, cb3, ⟨o0, o1, o2, o3, o4, o5, o6, o7, o8, o9, o10, o11⟩, cb5, cb6⟩ := hCB
  have hC6 : Cmp s6 := by
    refine Cmp_book (s := S2) hC2 (x := x) (by omega) hx12 (P := fun q => iI s6 341 (50 + 10 * q + 6)) (fun k hk hn => row k hk (by omega) (by omega) (fun i i1 i2 => by have := hWx i i1 i2; omega)) (fun k j hk hn => ?_) (fun k hk hn => ?_) p2 (fun _ _ => rfl) ?_ (fun q hq => ?_) ⟨fun i hi => ?_, ?_, ?_, ?_, ?_, ?_⟩ ?_ (fun q hq => ?_) ?_
    · rw [(c6' k j (by omega)).1]
      refine cb1 k j hk (fun z => hn ?_)
      rcases z with z | z | ⟨z, i, i1, i2, z2⟩
      · exact Or.inl z
      · exact Or.inr (Or.inr z)
      · have := hWx i i1 i2
        exact Or.inr (Or.inl (by omega))
    · rw [(c6' k 6 (by omega)).2]; exact cb2 k hk hn
    · rw [(c6' 0 3 (by omega)).1]; exact o11
    · show iI s6 (9 + q) 7 = iI s6 341 (50 + 10 * q + 6)
      rw [(c6' (9 + q) 7 (by omega)).1]
      by_cases hm : ∃ i, 1 ≤ i ∧ i ≤ c ∧ W i = q
      · obtain ⟨i, i1, i2, rfl⟩ := hm
        rw [cb3 i i1 i2, rowW i i1 i2]
      · rw [row _ (by omega) (by omega) (by omega) (fun i i1 i2 z => hm ⟨i, i1, i2, by omega⟩), cb1 (9 + q) 7 (by omega) (fun z => by
          rcases z with z | z | ⟨-, i, i1, i2, z2⟩
          · omega
          · omega
          · exact hm ⟨i, i1, i2, by omega⟩)]
        exact c_q7 hC2.2 (by omega)
    · rw [(c6' (9 + x) i (by omega)).1]
      have : i = 0 ∨ i = 1 ∨ i = 2 ∨ i = 3 ∨ i = 4 ∨ i = 5 := by omega
      rcases this with rfl | rfl | rfl | rfl | rfl | rfl
      · rw [o0, p3]
      · rw [o1, p4]
      · rw [o2, p5]
      · rw [o3, p6]
      · rw [o4, p7]
      · rw [o5, p8]
    · rw [(c6' (9 + x) 6 (by omega)).2, o6, p7, p8]
    · rw [(c6' (9 + x) 7 (by omega)).1, o7, p9, hD0]
    · rw [(c6' (9 + x) 8 (by omega)).1, o8, p10, hD0]
    · rw [(c6' (9 + x) 9 (by omega)).1, o9, p12]
    · rw [(c6' (9 + x) 10 (by omega)).1, o10, p11]
    · unfold VQ
      rw [p3, p4, p5, p6, p7, p8, p9, p10, p11, p12, row 0 (by omega) (by omega) (by omega) (fun i _ _ => by omega)]
      generalize (iI S2 341 (8 + 5 * g + 4) + pw) * n = pr at pr0 pr1
      omega
    · show 0 ≤ iI s6 341 (50 + 10 * q + 6) ∧ iI s6 341 (50 + 10 * q + 6) < iI S2 341 0
      by_cases hm : ∃ i, 1 ≤ i ∧ i ≤ c ∧ W i = q
      · obtain ⟨i, i1, i2, rfl⟩ := hm
        rw [rowW i i1 i2]
        have := (sD i i2).1
        omega
      · rw [row _ (by omega) (by omega) (by omega) (fun i i1 i2 z => hm ⟨i, i1, i2, by omega⟩)]
        have d := VRq hC2.1 (q := q) (by omega)
        unfold VQ at d
        omega
    · have r45 : ∀ q j, q < x → (j = 4 ∨ j = 5 ∨ j = 8) → iI s6 341 (50 + 10 * q + j) = iI S2 341 (50 + 10 * q + j) := fun q j hq hj => row _ (by omega) (by omega) (by omega) (fun i i1 i2 => by omega)
      refine book_VD (M0 := M0) (h := iI S2 341) (x := x) (c := c) (W := W) (T := PT M0 W D c) hF (VRd hC2.1) (by omega) p2 hx12 hRC.1 W0 (fun i hi => ?_) (by rw [← W0, hTW 0 (by omega), hD0, p9]) (by rw [p7, hP2.2.2.2.2.2.2.1, FG_I y2 (by unfold plC; omega)]; exact x3.2.2.2.2.1) (by rw [p8, hP2.2.2.2.2.2.2.2.1, FG_I y2 (by unfold plC; omega)]; exact x3.2.2.2.2.2.1) (fun q hq => ⟨r45 q 4 hq (by omega), r45 q 5 hq (by omega), r45 q 8 hq (by omega)⟩) (fun q hq hb => ?_) (fun q hq hn => ?_) (fun q hq => ?_)
      · by_cases h0 : i = 0
        · subst h0; omega
        · have := (sW i (by omega) hi).1
          omega
      · have hld : ldB S2 (-1) q := ⟨by omega, hb, by omega⟩
        have eq := (hP2.2.2.2.2.1.2.2 q (by omega)).1 hld
        refine ⟨eq.2.1, eq.2.2.1, ?_⟩
        by_cases hm : ∃ i, 1 ≤ i ∧ i ≤ c ∧ W i = q
        · obtain ⟨i, i1, i2, rfl⟩ := hm
          rw [hTW i i2, rowW i i1 i2]
        · rw [row _ (by omega) (by omega) (by omega) (fun i i1 i2 z => hm ⟨i, i1, i2, by omega⟩), ← eq.1]
          refine PLC_n (c + 1) (fun i hi z => ?_)
          by_cases h0 : i = 0
          · subst h0; omega
          · exact hm ⟨i, by omega, by omega, z⟩
      · exact row _ (by omega) (by omega) (by omega) (fun i i1 i2 z => hn i i2 (by omega))
      · by_cases e : q = x
        · subst e; rw [p7, p8]; omega
        · rw [r45 q 4 (by omega) (by omega), r45 q 5 (by omega) (by omega)]
          have d := VRq hC2.1 (q := q) (by omega)
          unfold VQ at d
          omega
  have l15 : iI s6 340 15 = c := by rw [P6.2 _ _ (by omega), n5' _ _ (by omega) (by omega), y4]
  have hL6 : Lat s6 := by
    refine ⟨by rw [l15, (c6' 320 7 (by omega)).1, cb5], by rw [l15]; omega, by rw [l15]; omega, fun k h1 h2 => ?_⟩
    rw [l15] at h2
    have q9 := cb6 (k / 3 + 1) (by omega) (by omega)
    have q8 := b4 (k / 3) (by omega) (by omega)
    rw [show k / 3 + 1 - 1 = k / 3 by omega] at q9
    rw [(c6' 339 k (by omega)).1, P6.2 348 k (by omega)]
    have : k = 3 * (k / 3) ∨ k = 3 * (k / 3) + 1 ∨ k = 3 * (k / 3) + 2 := by omega
    rcases this with e | e | e
    · rw [e, q9.1, q8.1]
    · rw [e, q9.2.1, q8.2.1]
    · rw [e, q9.2.2, q8.2.2.1, hTW _ (by omega)]
  refine ⟨s6, ?_, ?_, ?_, InvB_keep hI2 hh F3 k3 k4 k5 ?_ g2 ?_ hC6 hL6⟩
  · rw [hrf]
    unfold B_X8_book_116
    rw [nx_eq, if_pos (th_0 _), a0, l1, bd_some, l2, bd_some, w1, bd_some]
    dsimp only
    rw [if_neg (by decide), g1, bd_some, nx_eq, show gI m3 340 11 = oI (c : Int) from by rw [gI_oI, K3.2 _ _ (by omega), r5], a4]
    have e : ∀ z, z = fl → B_X8_book_248 fl fl 340 (oI kd) (oI ln) (oI br) (oI pw) (oI f) (oI n) 0 m4 = B_X8_book_248 fl z 340 (oI kd) (oI ln) (oI br) (oI pw) (oI f) (oI n) (oI ((0 : Nat) : Int)) m4 := by
      rintro z rfl
      rfl
    rw [e (fl - c - 1 + 1 + c) (by omega), b1, p1]
  · refine FG_trans (FG_mono (FG_FI Fm) (fun k j z => by rcases z with z | z | z; exact Or.inl (by omega); exact fd_rb _ _ z; exact Or.inr (by omega))) (FG_trans (FG_mono (FG_FI K3) (fun k j z => by unfold rbC; omega)) (FG_trans (FG_mono (FG_FI A4) (fun k j z => Or.inl (by omega))) (FG_trans (FG_mono (FG_FI B5) (fun k j z => ?_)) (FG_mono (FG_FI P6) (fun k j z => Or.inr (by omega))))))
    rcases z with z | ⟨z, -⟩
    · exact Or.inr (by omega)
    · exact Or.inr (by omega)
  · rw [P6.2 _ _ (by omega), n5' _ _ (by omega) (by omega), A4.2 _ _ (by omega), K3.2 _ _ (by omega), w2.2 _ _ (by unfold fdC rsC; omega), l3.2 _ _ (by omega), th0]
  · refine FG_trans (FG_mono F5 (fun k j z => ?_)) (FG_trans (FG_mono Fu (fun k j z => ?_)) (FG_mono (FG_FI Fm) (fun k j z => ?_)))
    · refine Or.inl ?_
      rcases z with z | z | z
      · exact Or.inl z
      · exact Or.inr (Or.inr (Or.inl z))
      · exact Or.inr (Or.inr (Or.inr z))
    · rcases z with z | z
      · exact Or.inl (Or.inr (Or.inl z))
      · exact Or.inr z
    · refine Or.inl (Or.inr (Or.inl ?_))
      rcases z with z | z | z
      · exact Or.inl (by omega)
      · exact fd_sc _ _ z
      · exact Or.inr (Or.inl (by omega))
  · refine FG_trans (FG_mono (FG_FI A4) (fun k j z => Or.inr (Or.inl z))) (FG_trans (FG_mono (FG_FI B5) (fun k j z => ?_)) (FG_mono (FG_FI P6) (fun k j z => Or.inl (by omega))))
    rcases z with z | ⟨z, r, z1, z2, z3⟩
    · exact Or.inr (Or.inr z)
    · have := hWx (r + 1) (by omega) (by omega)
      exact Or.inl (by omega)
