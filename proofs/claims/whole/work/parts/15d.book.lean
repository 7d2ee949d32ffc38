theorem sc_322 (k j : Nat) (h : k = 322) : scC k j := Or.inr (Or.inr (Or.inr (Or.inr (Or.inl h))))
theorem pl_sc (k j : Nat) (h : plC k j) : scC k j := by
  rcases h with h | h | h | h
  · exact Or.inr (Or.inr (Or.inr (Or.inl h)))
  · exact Or.inr (Or.inr (Or.inr (Or.inr (Or.inr (Or.inl h)))))
  · exact Or.inr (Or.inr (Or.inr (Or.inr (Or.inr (Or.inr (Or.inl h))))))
  · exact Or.inr (Or.inr (Or.inr (Or.inr (Or.inr (Or.inr (Or.inr h))))))
theorem pl_bk (k j : Nat) (h : plC k j) : bkC k j := by
  unfold plC at h
  exact Or.inr (Or.inr (Or.inl (by omega)))
theorem fd_sc (k j : Nat) (h : fdC k j) : scC k j := by
  rcases h with (h | h | h) | h | h
  · exact Or.inr (Or.inl (by omega))
  · exact Or.inr (Or.inl (by omega))
  · exact Or.inl (by omega)
  · exact Or.inr (Or.inl (by omega))
  · exact Or.inl (by omega)
theorem fd_rb (k j : Nat) (h : fdC k j) : rbC k j := by
  unfold fdC rsC at h
  unfold rbC
  omega
-- the class's search and the reference's ground
def BS (fl : Nat) (s S1 S2 M0 : Mem) (kd ln br pw f n : Int) (r : Int32) : Prop :=
  F_X3_describe fl 322 (oI kd) (oI ln) (oI br) (oI pw) (oI f) (oI n) s = some S1 ∧ FG s S1 (fun k j => k = 322) ∧ (iI S1 322 0 = kd ∧ iI S1 322 1 = ln ∧ iI S1 322 2 = br ∧ iI S1 322 3 = pw ∧ iI S1 322 4 = f ∧ iI S1 322 5 = n ∧ gL S1 322 6 = mI f n ∧ iI S1 322 7 = -1 ∧ iI S1 322 8 = 0 ∧ iI S1 322 9 = 0 ∧ iI S1 322 10 = 0) ∧
  PB S1 M0 ∧ MB M0 ∧ iI M0 342 12 = -1 ∧ F_X5_findBestPlan fl 321 S1 = some (r, S2) ∧ FG S1 S2 plC ∧ BR S2 M0 kd ln br r ∧
  ∀ s', RO s' → (∀ k, iI s' 341 k = iI s 341 k) → ∃ M1, F_X8_loads fl 340 (-1) s' = some M1 ∧ F_X8_comes fl 340 (oI pw) (oI f) (oI n) M1 = some (cm3 M1 pw f n) ∧ FI s' (cm3 M1 pw f n) (fun k j => 342 ≤ k ∧ k ≤ 345 ∧ j ≤ 12) ∧ RO (cm3 M1 pw f n) ∧ AG M0 (cm3 M1 pw f n) ∧ ∀ q, q ≤ 12 → iI (cm3 M1 pw f n) 342 q = iI M0 342 q
theorem book_set {fl : Nat} (hfl : 1000 ≤ fl) {s : Mem} (hI : InvB s) {kd ln br pw f n : Int} (hV : VA s kd ln br pw f n) : ∃ S1 S2 M0 r, BS fl s S1 S2 M0 kd ln br pw f n r := by
  obtain ⟨hs, hcs, ⟨hv, hc⟩, -⟩ := hI
  obtain ⟨v1, v2, v3, v4, v5, v6⟩ := hV
  obtain ⟨S1, x1, x2, x3⟩ := X3_describe (fl := fl) s (kd := kd) (ln := ln) (br := br) (pw := pw) (f := f) (n := n) (by omega) (by omega) (by omega) (by omega) (by omega) (by omega) (by omega) (by omega) (by omega) (by omega) (by omega) (by omega)
  have hs1 := FG_RO x2 hs
  have hC1 := Cmp_FG x2 (by omega) ⟨hv, hc⟩
  obtain ⟨M0, g1, g2, g3, g4, g5, g6, g7⟩ := gnd (fl := fl) hfl hs1 hC1.1 (pw := pw) (f := f) (n := n) (by omega) (by omega) (by omega) (by omega) (by omega) (by omega)
  obtain ⟨k0, k1, k2, k3, k4, k5, k6, k7⟩ := x3
  have hPB : PB S1 M0 := ⟨hs1, Cst_FG x2 (by omega) hcs, hC1.1, hC1.2, g1, g2, by rw [g3, k4], by rw [g4, k5], by rw [g5, k3], by rw [k6, k4, k5], by rw [k5]; omega⟩
  obtain ⟨S2, r, y1, y2, y3⟩ := X5_findBestPlan (fl := fl) hfl hPB
  rw [k0, k1, k2] at y3
  exact ⟨S1, S2, M0, r, x1, x2, ⟨k0, k1, k2, k3, k4, k5, k6, k7⟩, hPB, g6, g1.2.1, y1, y2, y3, fun s' h1 h2 => g7 s' h1 (fun k => by rw [h2, FG_I x2 (by omega)])⟩
theorem X8_88 {fl : Nat} {u : Mem} (hu : RO u) {kd ln br pw f n : Int} (hq : iI u 341 1 < 12) (hq0 : 0 ≤ iI u 341 1) : B_X8_book_88 fl 340 (oI kd) (oI ln) (oI br) (oI pw) (oI f) (oI n) 1 u = B_X8_book_116 fl 340 (oI kd) (oI ln) (oI br) (oI pw) (oI f) (oI n) 340 0 u := by
  unfold B_X8_book_88
  rw [if_neg (by decide), ld_340_1 hu, bd_some, gd_t (by decide)]
  dsimp only
  rw [show gI u 341 (1 : Int32).toNatClampNeg = oI (iI u 341 1) from by rw [gI_oI]; rfl, if_neg (by rw [show (12 : Int32) = oI 12 from rfl, oI_eq (by omega) (by omega) (by omega) (by omega)]; omega)]
theorem X8_88F {fl : Nat} {u : Mem} (hu : RO u) {v1 v2 v3 v4 v5 v6 : Int32} (hq : iI u 341 1 = 12) : B_X8_book_88 fl 340 v1 v2 v3 v4 v5 v6 1 u = some (0, pI u 340 0 (oI (2 : Nat))) := by
  unfold B_X8_book_88 B_X8_book_116
  rw [if_neg (by decide), ld_340_1 hu, bd_some, gd_t (by decide)]
  dsimp only
  rw [show gI u 341 (1 : Int32).toNatClampNeg = 12 from by rw [gI_oI]; exact congrArg oI hq, if_pos rfl, nx_eq, if_neg (th_n u (by decide))]
  rfl
-- what is found is the same on both sides
theorem BR_FR {S M M2 : Mem} {kd ln br : Int} {r r' : Int32} (h : BR S M kd ln br r) (h' : FR M M2 kd ln br r') : r = r' ∧ (r = 0 ∨ r = 1 ∧ ∃ c g k1 k2 : Nat, Bst M (ftM M kd ln br) c g k1 k2 ∧ SL S M (W2 k1 k2) (D2 g k1 k2) c ∧ (∀ i, 1 ≤ i → i ≤ c → iI S 324 i = W2 k1 k2 i) ∧ RSt M M2 (PT M (W2 k1 k2) (D2 g k1 k2) c) c (fun i => W2 k1 k2 (i + 1))) := by
  rcases h with ⟨rfl, c, g, k1, k2, b1, b2, b3⟩ | ⟨rfl, b1⟩
  · rcases h' with ⟨rfl, c', g', a, b, d1, d2⟩ | ⟨rfl, d1⟩
    · obtain ⟨rfl, rfl, rfl, rfl⟩ := Bst_u b1 d1
      exact ⟨rfl, Or.inr ⟨rfl, c, g, k1, k2, b1, b2, b3, d2⟩⟩
    · exact absurd b1.2.2.2.1 (d1 c g k1 k2 b1.1 b1.2.1 b1.2.2.1)
  · rcases h' with ⟨rfl, c', g', a, b, d1, d2⟩ | ⟨rfl, d1⟩
    · exact absurd d1.2.2.2.1 (b1 c' g' a b d1.1 d1.2.1 d1.2.2.1)
    · exact ⟨rfl, Or.inl rfl⟩
-- refused
theorem book_no {fl : Nat} (hfl : 1000 ≤ fl) {s S1 S2 M0 : Mem} (hI : InvB s) {kd ln br pw f n : Int} (hV : VA s kd ln br pw f n) (hq : iI s 341 1 < 12) (hS : BS fl s S1 S2 M0 kd ln br pw f n 0) :
    ∃ s1, F_X7_book fl 320 (oI kd) (oI ln) (oI br) (oI pw) (oI f) (oI n) s = some (.inl 5, s1) ∧ FG s s1 bkC ∧ ∀ u, FG s1 u ctC → ∃ s2, F_X8_book fl 340 (oI kd) (oI ln) (oI br) (oI pw) (oI f) (oI n) u = some (0, s2) ∧ FG u s2 rbC ∧ iI s2 340 0 = 3 ∧ InvB s2 := by
  have hI' := hI
  obtain ⟨hs, hcs, ⟨hv, hc⟩, ⟨c, m, hh⟩, hsn, hrs, hla⟩ := hI'
  have bn := VRn hv
  unfold VN at bn
  obtain ⟨x1, x2, x3, hPB, hM, h12, y1, y2, y3, hg⟩ := hS
  have hV' := hV
  obtain ⟨v1, v2, v3, v4, v5, v6⟩ := hV'
  have hP2 : PB S2 M0 := PB_FG y2 (fun _ _ z => z) hPB
  have n22 : ∀ j, iI S2 322 j = iI S1 322 j := fun j => FG_I y2 (by unfold plC; omega)
  have e0 : ∀ k, iI M0 341 k = iI S2 341 k := hP2.2.2.2.2.1.1
  have n41 : ∀ k, iI S2 341 k = iI s 341 k := fun k => by rw [FG_I y2 (by unfold plC; omega), FG_I x2 (by omega)]
  have gr := X1_greatestL (fl := fl) hfl hP2 (iI s 341 0).toNat 0 1 fl (by rw [n41]; omega) (by omega) (by omega) (by omega)
  rw [n22, n22, n22, x3.1, x3.2.1, x3.2.2.1] at gr
  have gb := mxO_bd (obT_bd M0 (iI M0 342) kd ln br) (iI s 341 0).toNat 0 1 (by omega) (by omega)
  generalize hob : itr (mxO (obT M0 (iI M0 342) kd ln br)) (iI s 341 0).toNat 0 1 = ob at gr gb
  obtain ⟨s1, e1, F1, z1⟩ := stI S2 320 6 (v := ob) (by omega) (by omega)
  have hcl := ((X7_bookG (fl := fl) hs hc (by omega) (by omega) (by omega) (by omega) (kd := kd) (ln := ln) (br := br) (pw := pw) (f := f) (n := n) (by omega) (by omega) (by omega) (by omega) (by omega) (by omega) (by omega) (by omega) (by omega) (by omega) (by omega) (by omega)).2.2 hV hq S1 S2 0 x1 hPB.1 y1 hP2.1).1 rfl _ gr
  rw [e1] at hcl
  have Fs1 : FG s s1 (fun k j => k = 322 ∨ plC k j ∨ k = 320 ∧ j = 6) := FG_trans (FG_mono x2 (fun k j z => Or.inl z)) (FG_trans (FG_mono y2 (fun k j z => Or.inr (Or.inl z))) (FG_mono F1 (fun k j z => Or.inr (Or.inr z))))
  refine ⟨s1, hcl, FG_mono Fs1 (fun k j z => by rcases z with z | z | z; exact Or.inr (Or.inr (Or.inl (by omega))); exact pl_bk _ _ z; exact Or.inr (Or.inl (by omega))), fun u Fu => ?_⟩
  have hu := FG_RO Fu (FG_RO Fs1 hs)
  have u41 : ∀ k, iI u 341 k = iI s 341 k := fun k => by rw [FG_I Fu (by unfold ctC scC; omega), FG_I Fs1 (by unfold plC; omega)]
  have hVu : VA u kd ln br pw f n := by unfold VA; rw [u41]; exact hV
  have hrf := (X8_bookG (fl := fl) hu (by rw [u41]; omega) (by rw [u41]; omega) (kd := kd) (ln := ln) (br := br) (pw := pw) (f := f) (n := n) (by omega) (by omega) (by omega) (by omega) (by omega) (by omega) (by omega) (by omega) (by omega) (by omega) (by omega) (by omega)).1 hVu
  rw [X8_88 hu (by rw [u41]; omega) (by rw [u41]; omega)] at hrf
  obtain ⟨m0, a0, A0⟩ : ∃ m, pI u 340 0 0 = m ∧ FI u m (fun k j => k = 340 ∧ j = 0) := ⟨_, rfl, FI_p _ _ _ _ ⟨rfl, rfl⟩⟩
  obtain ⟨M1, l1, l2, l3, l4, l5, l6⟩ := hg m0 (FI_RO A0 hu) (fun k => by rw [A0.2 _ _ (by omega), u41])
  obtain ⟨m2, r', w1, w2, w3⟩ := X8_findsG (fl := fl) hfl l4 hM l5 l6 (kd := kd) (ln := ln) (br := br) (by omega) (by omega) (by omega) (by omega) (by omega) (by omega)
  have hr' := (BR_FR y3 w3).1
  subst hr'
  obtain ⟨m3, a3, A3⟩ : ∃ m, pI m2 340 0 3 = m ∧ FI m2 m (fun k j => k = 340 ∧ j = 0) := ⟨_, rfl, FI_p _ _ _ _ ⟨rfl, rfl⟩⟩
  have y30 : iI m3 340 0 = 3 := by rw [← a3]; rfl
  have r2 := FI_RO w2 l4
  obtain ⟨M4, p1, p2, p3, p4, p5, p6⟩ := hg m3 (FI_RO A3 r2) (fun k => by rw [A3.2 _ _ (by omega), w2.2 _ _ (by unfold fdC rsC; omega), l3.2 _ _ (by omega), A0.2 _ _ (by omega), u41])
  obtain ⟨m5, a5, A5, y5⟩ : ∃ m, pI (cm3 M4 pw f n) 340 14 1 = m ∧ FI (cm3 M4 pw f n) m (fun k j => k = 340 ∧ j = 14) ∧ iI m 340 14 = 1 := ⟨_, rfl, FI_p _ _ _ _ ⟨rfl, rfl⟩, rfl⟩
  obtain ⟨s2, q1, q2, q3⟩ := X8_greatestL (fl := fl) hfl hM h12 (kd := kd) (ln := ln) (br := br) (by omega) (by omega) (by omega) (by omega) (by omega) (by omega) (iI s 341 0).toNat 0 1 m5 fl (by rw [e0, n41]; omega) (by omega) (by omega) (by omega) (FI_RO A5 p4) (AG_trans p5 (AG_FI A5 (by omega))) (fun q hq => by rw [A5.2 _ _ (by omega)]; exact p6 q hq) y5
  rw [hob] at q3
  have Fm : FI u s2 (fun k j => k = 340 ∧ (j = 0 ∨ j = 14) ∨ fdC k j ∨ 342 ≤ k ∧ k ≤ 345) :=
    FI_trans (FI_mono A0 (by omega)) (FI_trans (FI_mono l3 (by omega)) (FI_trans (FI_mono w2 (fun k j z => Or.inr (Or.inl z))) (FI_trans (FI_mono A3 (by omega)) (FI_trans (FI_mono p3 (by omega)) (FI_trans (FI_mono A5 (by omega)) (FI_mono q2 (by omega)))))))
  have Fall : FG s s2 (fun k j => ctC k j ∨ k = 320 ∧ j = 6 ∨ k = 340 ∧ j = 14) := FG_trans (FG_mono Fs1 (fun k j z => by rcases z with z | z | z; exact Or.inl (Or.inl (sc_322 _ _ z)); exact Or.inl (Or.inl (pl_sc _ _ z)); exact Or.inr (Or.inl z))) (FG_trans (FG_mono Fu (fun k j z => Or.inl z)) (FG_mono (FG_FI Fm) (fun k j z => by rcases z with ⟨z, z' | z'⟩ | z | z; exact Or.inl (Or.inl (Or.inl ⟨z, Or.inl z'⟩)); exact Or.inr (Or.inr ⟨z, z'⟩); exact Or.inl (Or.inl (fd_sc _ _ z)); exact Or.inl (Or.inl (Or.inr (Or.inl (by omega)))))))
  refine ⟨s2, ?_, FG_mono (FG_FI Fm) (fun k j z => by rcases z with z | z | z; exact Or.inl (by omega); exact fd_rb _ _ z; exact Or.inr (by omega)), ?_, FG_RO Fall hs, Cst_FG Fall (by unfold ctC scC; omega) hcs, Cmp_FG Fall (by unfold ctC scC; omega) ⟨hv, hc⟩, ⟨c, m, Hist_FG Fall (by unfold ctC scC; omega) hh⟩, Snp_FG Fall (by unfold ctC scC; omega) hsn, ?_, Lat_FG Fall (by unfold ctC scC; omega) hla⟩
  · rw [hrf]
    unfold B_X8_book_116
    rw [nx_eq, if_pos (th_0 _), a0, l1, bd_some, l2, bd_some, w1, bd_some]
    dsimp only
    rw [if_pos rfl, nx_eq, a3, p1, bd_some, p2, bd_some, nx_eq, a5]
    exact q1
  · rw [q2.2 _ _ (by omega), A5.2 _ _ (by omega), p3.2 _ _ (by omega), y30]
  · have z2 : iI s2 320 6 = ob := by rw [Fm.2 _ _ (by unfold fdC rsC; omega), FG_I Fu (by unfold ctC scC; omega)]; exact z1
    exact ⟨by rw [z2, q3], by omega, by omega⟩
