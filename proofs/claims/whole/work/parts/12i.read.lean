theorem obX_T {s : Mem} {kd ln br : Int} {p : Nat} (hp : p < 6) : obX s kd ln br p = obT s (iI s 342) kd ln br p := by
  have ag : AG s (pI s 342 12 (oI p)) := AG_FI (FI_p s 342 12 (oI p) (C := fun k j => k = 342) rfl) (fun k j h => by omega)
  have ht : ∀ q, q ≤ 12 → iI (pI s 342 12 (oI p)) 342 q = up (iI s 342) 12 p q := fun q _ => by
    unfold up
    by_cases hq : q = 12
    · subst hq; rw [if_pos rfl, iI_pe (by omega) (by omega)]
    · rw [if_neg hq, iI_pn (Or.inr hq)]
  have e1 : alP (pI s 342 12 (oI p)) 12 ↔ alT s (up (iI s 342) 12 p) 12 := alT_cg ag ht (by omega)
  have e2 : hpP (pI s 342 12 (oI p)) 12 ↔ hpT s (up (iI s 342) 12 p) 12 := hpT_cg ag ht (by omega)
  have e3 : slP (pI s 342 12 (oI p)) ↔ slT s (up (iI s 342) 12 p) := slT_cg ag ht
  have e4 : gA (pI s 342 12 (oI p)) = gaT s (up (iI s 342) 12 p) := gaT_cg ag ht
  have e5 : gA s = gaT s (iI s 342) := rfl
  unfold obX obT
  simp only [e1, e2, e3, e4, e5]
theorem obT_cg {M M' : Mem} {t t' : Nat → Int} (h : AG M M') (ht : ∀ q, q ≤ 12 → t' q = t q) (kd ln br : Int) (p : Nat) : obT M' t' kd ln br p = obT M t kd ln br p := by
  have ht' : ∀ q, q ≤ 12 → up t' 12 p q = up t 12 p q := fun q hq => by
    unfold up
    rw [ht q hq]
  have e0 : ftP M' kd ln br (iI M' 345 12) p ↔ ftP M kd ln br (iI M 345 12) p := by unfold ftP; rw [h.1, h.1, h.1, h.1, (h.2 12 (by omega)).2.2]
  have e1 : alT M' (up t' 12 p) 12 ↔ alT M (up t 12 p) 12 := alT_cg h ht' (by omega)
  have e2 : hpT M' (up t' 12 p) 12 ↔ hpT M (up t 12 p) 12 := hpT_cg h ht' (by omega)
  have e3 : slT M' (up t' 12 p) ↔ slT M (up t 12 p) := slT_cg h ht'
  have e4 : gaT M' (up t' 12 p) = gaT M (up t 12 p) := gaT_cg h ht'
  have e5 : gaT M' t' = gaT M t := gaT_cg h ht
  unfold obT
  simp only [e0, e1, e2, e3, e4, e5]
theorem cmPair {fl : Nat} (hfl : 1000 ≤ fl) {s : Mem} (hI : Inv s) {q : Nat} (hq : (q : Int) < iI s 341 1) : ∃ M, vF M ∧ LT s M (iI M 342) q ∧ iI M 343 12 = iI s 341 (50 + 10 * q + 4) ∧ iI M 344 12 = iI s 341 (50 + 10 * q + 5) ∧ iI M 345 12 = iI s 341 (50 + 10 * q + 3) ∧
    ∀ s1, RO s1 → (∀ k, iI s1 341 k = iI s 341 k) → ∃ M1, F_X8_comesAs fl 340 (oI q) s1 = some M1 ∧ FI s1 M1 (fun k j => 342 ≤ k ∧ k ≤ 345 ∧ j ≤ 12) ∧ AG M M1 ∧ (∀ x, x ≤ 12 → iI M1 342 x = iI M 342 x) ∧ RO M1 ∧ vF M1 ∧ vT M1 ∧ iI M1 342 12 = -1 ∧ (∀ k, iI M1 341 k = iI s 341 k) := by
  obtain ⟨hs, -, ⟨hv, hc⟩, -⟩ := hI
  have bn := VRn hv
  unfold VN at bn
  have dq := VRq hv hq
  unfold VQ at dq
  have all : ∀ s1 M1, VR (iI s1 341) → (∀ k, iI s1 341 k = iI s 341 k) → FI s1 M1 (fun k j => 342 ≤ k ∧ k ≤ 345 ∧ j ≤ 12) → (∀ r, r < 12 → LD s1 M1 q r) → iI M1 342 12 = -1 → iI M1 343 12 = iI s1 341 (50 + 10 * q + 4) → iI M1 344 12 = iI s1 341 (50 + 10 * q + 5) → iI M1 345 12 = iI s1 341 (50 + 10 * q + 3) → vF M1 ∧ (∀ x, x ≤ 12 → -1 ≤ iI M1 342 x ∧ iI M1 342 x < 6) := by
    intro s1 M1 hv1 e F hL h12 h3 h4 h5
    refine ⟨fun r hr => ?_, fun r hr => ?_⟩
    · by_cases h : r = 12
      · subst h; rw [h3, h4, h5, e, e, e]; omega
      · obtain ⟨a1, a2, a3, a4⟩ := hL r (by omega)
        rw [a2, a3, a4]
        unfold ldV
        by_cases hB : ldB s1 q r
        · have d := VRq hv1 (q := r) hB.1
          unfold VQ at d
          rw [if_pos hB, if_pos hB, if_pos hB]
          omega
        · rw [if_neg hB, if_neg hB, if_neg hB]
          omega
    · by_cases h : r = 12
      · subst h; rw [h12]; omega
      · obtain ⟨a1, a2, a3, a4⟩ := hL r (by omega)
        rw [a1]
        unfold ldV
        by_cases hB : ldB s1 q r
        · have d := VRq hv1 (q := r) hB.1
          unfold VQ at d
          rw [if_pos hB]
          have := e 0
          omega
        · rw [if_neg hB]
          omega
  obtain ⟨M, g1, g2, g3, g4, g5, g6, g7⟩ := X8_comesAs (fl := fl) hfl hs (q := q) (by omega) (by omega) (by omega)
  have aM := all s M hv (fun _ => rfl) g2 g3 g4 g5 g6 g7
  refine ⟨M, aM.1, ⟨fun k => g2.2 341 k (by omega), g4, fun r hr => ⟨fun hB => ?_, fun hB => ?_⟩⟩, g5, g6, g7, fun s1 hs1 e => ?_⟩
  · obtain ⟨a1, a2, a3, a4⟩ := g3 r hr
    exact ⟨a1.trans (if_pos hB), a2.trans (if_pos hB), a3.trans (if_pos hB), a4.trans (if_pos hB)⟩
  · exact (g3 r hr).1.trans (if_neg hB)
  · have hv1 : VR (iI s1 341) := VR_cg (fun k _ => e k) hv
    obtain ⟨M1, f1, f2, f3, f4, f5, f6, f7⟩ := X8_comesAs (fl := fl) hfl hs1 (q := q) (by omega) (by rw [e]; omega) (by rw [e]; omega)
    have aM1 := all s1 M1 hv1 e f2 f3 f4 f5 f6 f7
    have ev : ∀ r f d, ldV s1 q r f d = ldV s q r f d := fun r f d => by
      unfold ldV ldB
      rw [e, e, e]
    refine ⟨M1, f1, f2, ⟨fun k => ?_, fun r hr => ?_⟩, fun r hr => ?_, FI_RO f2 hs1, aM1.1, vT_of aM1.1 aM1.2, f4, fun k => by rw [f2.2 341 k (by omega), e]⟩
    · rw [f2.2 341 k (by omega), g2.2 341 k (by omega), e]
    · by_cases h : r = 12
      · subst h; rw [f5, f6, f7, g5, g6, g7, e, e, e]; exact ⟨rfl, rfl, rfl⟩
      · obtain ⟨a1, a2, a3, a4⟩ := g3 r (by omega)
        obtain ⟨b1, b2, b3, b4⟩ := f3 r (by omega)
        rw [a2, a3, a4, b2, b3, b4, ev, ev, ev]
        exact ⟨rfl, rfl, rfl⟩
    · by_cases h : r = 12
      · subst h; rw [f4, g4]
      · rw [(g3 r (by omega)).1, (f3 r (by omega)).1, ev]
-- the obstacle of a party, both
theorem obPair {fl : Nat} (hfl : 1000 ≤ fl) {s : Mem} (hI : Inv s) {q p : Nat} (hq : (q : Int) < iI s 341 1) (hp : (p : Int) < iI s 341 0) : ∃ v : Int, 0 ≤ v ∧ v ≤ 5 ∧ (¬ (1 ≤ v ∧ v ≤ 3) → ∀ r : Nat, (r : Int) < iI s 341 1 → r ≠ q → iI s 341 (50 + 10 * r + 8) = 1 → iI s 341 (50 + 10 * r + 6) = p → iI s 341 (50 + 10 * q + 4) + iI s 341 (50 + 10 * q + 5) ≤ iI s 341 (50 + 10 * r + 4) ∨ iI s 341 (50 + 10 * r + 4) + iI s 341 (50 + 10 * r + 5) ≤ iI s 341 (50 + 10 * q + 4)) ∧ F_X1_obstacleOf fl 0 (9 + q) (oI q) (oI p) s = some (oI v) ∧
    ∀ s1, RO s1 → (∀ k, iI s1 341 k = iI s 341 k) → ∃ M1, F_X8_comesAs fl 340 (oI q) s1 = some M1 ∧ FI s1 M1 (fun k j => 342 ≤ k ∧ k ≤ 345 ∧ j ≤ 12) ∧ RO M1 ∧ (∀ k, iI M1 341 k = iI s 341 k) ∧ F_X8_obstacleOf fl 340 (oI (iI s 341 (50 + 10 * q + 0))) (oI (iI s 341 (50 + 10 * q + 1))) (oI (iI s 341 (50 + 10 * q + 2))) (oI p) M1 = some (oI v, M1) := by
  have hI' := hI
  obtain ⟨hs, -, ⟨hv, hc⟩, -⟩ := hI'
  have bn := VRn hv
  unfold VN at bn
  have dq := VRq hv hq
  unfold VQ at dq
  have dp := VRp hv hp
  unfold VP at dp
  obtain ⟨M, hF, hL, m3, m4, m5, hN⟩ := cmPair hfl hI hq
  refine ⟨obT M (iI M 342) (iI s 341 (50 + 10 * q + 0)) (iI s 341 (50 + 10 * q + 1)) (iI s 341 (50 + 10 * q + 2)) p, ?_, ?_, ?_, ?_, ?_⟩
  · unfold obT
    repeat' split
    all_goals omega
  · unfold obT
    repeat' split
    all_goals omega
  · intro hv3 r hr hrq hb hat
    have hal : alT M (up (iI M 342) 12 p) 12 := by
      apply Decidable.byContradiction
      intro hn
      unfold obT at hv3
      by_cases hft : ftP M (iI s 341 (50 + 10 * q + 0)) (iI s 341 (50 + 10 * q + 1)) (iI s 341 (50 + 10 * q + 2)) (iI M 345 12) p
      · rw [if_neg (fun z => z hft), if_pos hn] at hv3
        exact hv3 (by omega)
      · rw [if_pos hft] at hv3
        exact hv3 (by omega)
    have hB : ldB s q r := ⟨hr, hb, by omega⟩
    have dr := VRq hv hr
    unfold VQ at dr
    have e := (hL.2.2 r (by omega)).1 hB
    have hd := (alT_iff hF _ (by omega)).mp hal r (by omega) (by omega) (by rw [up_n (by omega), up_e, e.1, hat])
    apply Decidable.byContradiction
    intro hn
    obtain ⟨j, hj⟩ : ∃ j : Nat, (j : Int) = max (iI s 341 (50 + 10 * q + 4)) (iI s 341 (50 + 10 * r + 4)) := ⟨(max (iI s 341 (50 + 10 * q + 4)) (iI s 341 (50 + 10 * r + 4))).toNat, by omega⟩
    refine hd j ⟨?_, ?_⟩
    · unfold inN
      rw [e.2.1, e.2.2.1]
      omega
    · unfold inN
      rw [m3, m4]
      omega
  · have := X1_obstacleOf (fl := fl) (w := 9 + q) (x := q) hfl hs hc hv hF hL hp (by omega) (by omega) (c_q hc hq (by decide : 4 < 6)) (c_q hc hq (by decide : 5 < 6)) (c_q hc hq (by decide : 3 < 6)) (c_qL hc hq) (by omega) m3 m4 m5
    rw [this, c_q hc hq (by decide), c_q hc hq (by decide), c_q hc hq (by decide)]
  · intro s1 hs1 e
    obtain ⟨M1, n1, n2, n3, n4, n5, n6, n7, n8, n9⟩ := hN s1 hs1 e
    have hv1 : VR (iI M1 341) := VR_cg (fun k _ => n9 k) hv
    have := n3.2 12 (by omega)
    refine ⟨M1, n1, n2, n5, n9, ?_⟩
    rw [X8_obstacleOf (fl := fl) hfl n5 n7 (VR_vS hv1) (by rw [n9]; omega) (by rw [n9]; omega) (by rw [n9]; omega) (by rw [n9]; omega) n8 (by omega) (by omega) (by omega) (by rw [n9]; omega) (by omega) (by omega) (by omega) (by omega) (by omega) (by omega), obX_T (by omega), obT_cg n3 n4]
theorem LM_obstacle {fl : Nat} (hfl : 1000 ≤ fl) {s : Mem} (hI : Inv s) {a b : Int} (a1 : -2147483648 ≤ a) (a2 : a < 2147483648) (b1 : -2147483648 ≤ b) (b2 : b < 2147483648) : Ans (F_L_obstacle fl 320 (oI a) (oI b) 350) (F_X8_obstacle fl 340 (oI a) (oI b)) s := by
  have hI' := hI
  obtain ⟨hs, -, ⟨hv, hc⟩, -⟩ := hI'
  have bn := VRn hv
  unfold VN at bn
  by_cases ha : 0 ≤ a ∧ a < iI s 341 1
  · by_cases hb : 0 ≤ b ∧ b < iI s 341 0
    · obtain ⟨q, rfl⟩ : ∃ q : Nat, a = q := ⟨a.toNat, by omega⟩
      obtain ⟨p, rfl⟩ : ∃ p : Nat, b = p := ⟨b.toNat, by omega⟩
      obtain ⟨v, v0, v5, -, hcl, href⟩ := obPair hfl hI ha.2 hb.2
      have q1 : F_X7_obstacle fl 320 (oI q) (oI p) s = some (.inr (oI v), s) := by
        unfold F_X7_obstacle
        rw [rqQ_y hs hc (by omega) (by omega) (by omega) ha, bd_some, xb_r, rqP_y hs hc (by omega) (by omega) hb, bd_some, xb_r, ld_320_1 hs, bd_some, bd_some, ld_02 hs, bd_some]
        dsimp only
        rw [gd_t ((oI_inR (by omega) (by omega)).mpr (by omega)), oI_nat (by omega) (by omega), Int.toNat_natCast, ld_q hs (by omega), bd_some, hcl, bd_some]
      refine Ans_w hI (L_obstacle_v q1) fun s1 hI1 F => ?_
      have hs1 := hI1.1
      have e0 := sc41 F 0
      have e1 := sc41 F 1
      obtain ⟨M1, n1, n2, n3, n4, n5⟩ := href (pI s1 340 0 0) hs1 (fun k => by rw [iI_pn (Or.inl (by omega)), sc41 F])
      refine ⟨M1, ?_, FI_trans (FI_th s1 0) (FI_lo n2), by rw [n2.2 340 0 (by omega)]; exact th_z s1⟩
      unfold F_X8_obstacle
      rw [X8_isParty hs1 (by omega) (by omega) (by omega), bd_some, ifB_t (by omega), X8_isPitch hs1 (by omega) (by omega) (by omega), bd_some, ifB_t (by omega)]
      unfold B_X8_obstacle_22
      rw [nx_eq, if_pos (th_0 s1), n1, bd_some, show (0 : Int32) = oI ((0 : Nat) : Int) from rfl, show (1 : Int32) = oI ((1 : Nat) : Int) from rfl, show (2 : Int32) = oI ((2 : Nat) : Int) from rfl, X8_of n3 (by omega) (by omega), bd_some, X8_of n3 (by omega) (by omega), bd_some, X8_of n3 (by omega) (by omega), bd_some, n4, n4, n4, n5, bd_some]
    · have q1 : F_X7_obstacle fl 320 (oI a) (oI b) s = some (.inl 3, s) := by
        unfold F_X7_obstacle
        rw [rqQ_y hs hc (by omega) (by omega) (by omega) ha, bd_some, xb_r, rqP_n hs hc (by omega) (by omega) hb]
        rfl
      refine Ans_e hI (c := 1) (v := 0) (by omega) (by omega) (L_obstacle_1 q1) ?_
      unfold F_X8_obstacle
      rw [X8_isParty hs (by omega) (by omega) (by omega), bd_some, ifB_t (by omega), X8_isPitch hs (by omega) (by omega) (by omega), bd_some, ifB_f (by omega)]
      unfold B_X8_obstacle_21 B_X8_obstacle_22
      rw [nx_eq, if_neg (th_n s (by decide))] <;> rfl
  · have q1 : F_X7_obstacle fl 320 (oI a) (oI b) s = some (.inl 3, s) := by
      unfold F_X7_obstacle
      rw [rqQ_n hs hc (by omega) (by omega) (by omega) ha]
      rfl
    refine Ans_e hI (c := 1) (v := 0) (by omega) (by omega) (L_obstacle_1 q1) ?_
    unfold F_X8_obstacle
    rw [X8_isParty hs (by omega) (by omega) (by omega), bd_some, ifB_f (by omega)]
    unfold B_X8_obstacle_21 B_X8_obstacle_22
    rw [nx_eq, if_neg (th_n s (by decide))] <;> rfl
-- the share
theorem sh_num : ∀ p, p < 7 → 1 ≤ p → ∀ b, b < 361 → nNaN (FP.ddiv (FP.i2d (oI (b : Nat))) (FP.i2d (oI ((60 * p : Nat) : Int)))) := by decide +kernel
def AnsD (fL : Mem → Option (Int32 × Mem)) (f8 : Mem → Option (UInt64 × Mem)) (s : Mem) : Prop := ∃ k s1 v s2, fL s = some (k, s1) ∧ f8 s1 = some (v, s2) ∧ gI s2 340 0 = k ∧ (k = 0 → gD s2 351 0 = v) ∧ Inv s2
theorem Inv_pd {s : Mem} (hI : Inv s) (v : UInt64) : Inv (pD s 351 0 v) := Inv_sc (s := s) (s' := pD s 351 0 v) ⟨fun _ _ _ => ⟨rfl, rfl⟩, fun _ _ _ => rfl⟩ hI
theorem FI_D {s s' : Mem} {C : Nat → Nat → Prop} (h : FI s s' C) (k j : Nat) : gD s' k j = gD s k j := by
  unfold gD
  rw [h.1]
theorem LM_share {fl : Nat} (hfl : 1000 ≤ fl) {s : Mem} (hI : Inv s) : AnsD (F_L_share fl 320 351) (F_X8_share fl 340) s := by
  have hI' := hI
  obtain ⟨hs, -, ⟨hv, hc⟩, -⟩ := hI'
  have bn := VRn hv
  unfold VN at bn
  by_cases h0 : iI s 341 0 = 0
  · have q1 : F_X7_share fl 320 s = some (.inl 4, s) := by
      unfold F_X7_share
      rw [ld_320_1 hs, bd_some, gI_oI, c_pc hc, h0]
      rfl
    refine ⟨oI (1 : Nat), s, FP.dconst0, pI s 340 0 1, L_share_1 q1, ?_, rfl, fun h => absurd h (by decide), Inv_sc (FG_p _ _ _ _ (by unfold scC; omega)) hI⟩
    unfold F_X8_share
    rw [ld_340_1 hs, bd_some, gd_t (by decide), gI_oI, show (0 : Int32).toNatClampNeg = 0 from by decide, h0, if_pos (by decide)]
    unfold B_X8_share_15
    rw [nx_eq, if_neg (th_n s (by decide))]
  · obtain ⟨M, hS, hF, hL, -, hN⟩ := ldPair hfl hI (w := -1) (by omega) (by omega)
    have hab : F_X1_countAllBusyNights fl 0 s = some (oI (bsT M (iI M 342) (iI s 341 0).toNat)) := X1_allBusyL hfl hs hc hv hL hF (iI s 341 0).toNat 0 0 fl (by omega) (by omega)
    have bb := bsT_bd M (iI M 342) (n := (iI s 341 0).toNat) (by omega)
    obtain ⟨x, hx⟩ : ∃ x, x = FP.ddiv (FP.i2d (oI (bsT M (iI M 342) (iI s 341 0).toNat))) (FP.i2d ((60 : Int32) * oI (iI s 341 0))) := ⟨_, rfl⟩
    have hn : nNaN x := by
      rw [hx]
      have := sh_num (iI s 341 0).toNat (by omega) (by omega) (bsT M (iI M 342) (iI s 341 0).toNat).toNat (by omega)
      rw [show (((bsT M (iI M 342) (iI s 341 0).toNat).toNat : Nat) : Int) = bsT M (iI M 342) (iI s 341 0).toNat by omega, show ((60 * (iI s 341 0).toNat : Nat) : Int) = 60 * iI s 341 0 by omega, ← oI_mul] at this
      exact this
    have q1 : F_X7_share fl 320 s = some (.inr x, s) := by
      unfold F_X7_share
      rw [ld_320_1 hs, bd_some, gI_oI, c_pc hc, if_pos (by rw [n0_o, oI_lt (by omega) (by omega) (by omega) (by omega)]; show (0 : Int) < _; omega), bd_some, hab, bd_some, bd_some, gI_oI, c_pc hc, ← hx, gd_t hn]
    have hs1 : RO (pD s 351 0 x) := hs
    obtain ⟨M1, n1, n2, n3, n4, n5, n6, n7, n8⟩ := hN (pI (pD s 351 0 x) 340 0 0) hs1 (fun k => rfl)
    have hb : F_X8_busyNights fl 340 (pI (pD s 351 0 x) 340 0 0) = some (oI (bsT M (iI M 342) (iI s 341 0).toNat), M1) := by
      unfold F_X8_busyNights
      rw [m1_o, n1, bd_some]
      have := X8_busyAllL (fl := fl) hfl n5 (iI s 341 0).toNat 0 0 fl (by rw [n8]; omega) (by omega) (by omega)
      refine this.trans (congrArg (fun z => some (oI z, M1)) ?_)
      unfold bsT
      refine sm_cg _ 0 fun p _ _ => ?_
      rw [mo_T, moT_cg n3 n4]
    refine ⟨oI (0 : Nat), pD s 351 0 x, x, M1, L_share_v q1, ?_, ?_, fun _ => ?_, Inv_sc (FG_FI (FI_trans (FI_th _ 0) (FI_lo n2))) (Inv_pd hI x)⟩
    · unfold F_X8_share
      rw [ld_340_1 hs1, bd_some]
      dsimp only
      rw [gd_t (by decide), gI_oI, show (0 : Int32).toNatClampNeg = 0 from by decide, iI_pD, if_neg (by rw [n0_o, oI_eq (by omega) (by omega) (by omega) (by omega)]; show ¬ _ = (0 : Int); omega)]
      unfold B_X8_share_15
      rw [nx_eq, if_pos (th_0 _), hb, bd_some]
      dsimp only
      rw [ld_340_1 n5, bd_some, gd_t (by decide), gI_oI, show (0 : Int32).toNatClampNeg = 0 from by decide, n8, ← hx, gd_t hn]
    · rw [gI_oI, n2.2 340 0 (by omega), th_z]; rfl
    · rw [FI_D n2]; rfl
-- what is told without a throw
theorem LM_tonight {fl : Nat} {s : Mem} (hI : Inv s) : ∃ s2, F_X7_tonight fl 320 s = some (oI (iI s 341 3)) ∧ F_X8_tonight fl 340 s = some (oI (iI s 341 3), s2) ∧ Inv s2 := by
  have hI' := hI
  obtain ⟨hs, -, ⟨hv, hc⟩, -⟩ := hI'
  refine ⟨pI s 340 0 0, ?_, ?_, Inv_sc (FG_p _ _ _ _ (by unfold scC; omega)) hI⟩
  · unfold F_X7_tonight
    rw [ld_320_1 hs, bd_some, gI_oI, c_tn hc]
  · have hs1 : RO (pI s 340 0 0) := hs
    unfold F_X8_tonight
    rw [nx_eq, ld_340_1 hs1, bd_some, gd_t (by decide), gI_oI, show (3 : Int32).toNatClampNeg = 3 from by decide, iI_pn (Or.inl (by omega))]
theorem LM_moves {fl : Nat} {s : Mem} (hI : Inv s) : ∃ s2, F_X7_moves fl 320 s = some (oI (iI s 340 15)) ∧ F_X8_moves fl 340 s = some (oI (iI s 340 15), s2) ∧ Inv s2 := by
  have hI' := hI
  obtain ⟨hs, -, -, -, -, -, hl, -⟩ := hI'
  refine ⟨pI s 340 0 0, ?_, ?_, Inv_sc (FG_p _ _ _ _ (by unfold scC; omega)) hI⟩
  · unfold F_X7_moves
    rw [gI_oI, hl.1]
  · unfold F_X8_moves
    rw [nx_eq, gI_oI, iI_pn (Or.inr (by omega))]
theorem LM_fault {fl : Nat} {s : Mem} (hI : Inv s) : ∃ s2, F_X7_faultPosition fl 320 s = some (oI (iI s 340 21)) ∧ F_X8_faultPosition fl 340 s = some (oI (iI s 340 21), s2) ∧ Inv s2 := by
  have hI' := hI
  obtain ⟨hs, -, -, -, -, -, -, ht⟩ := hI'
  refine ⟨pI s 340 0 0, ?_, ?_, Inv_sc (FG_p _ _ _ _ (by unfold scC; omega)) hI⟩
  · unfold F_X7_faultPosition
    rw [ld_320_5 hs, bd_some, gI_oI, ht.2.1.1]
  · unfold F_X8_faultPosition
    rw [nx_eq, gI_oI, iI_pn (Or.inr (by omega))]
