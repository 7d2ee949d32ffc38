set_option maxHeartbeats 4000000 in
set_option maxRecDepth 100000 in
theorem T_X7_dropSeason {l : Launch} (hfl : l.stackTraces = false) (fl : Nat) (v0 : Nat) (v1 : Int32) (s : Mem) (hv0 : shape v0 = some (.inl 9)) (ρ : ((Nat ⊕ Int32) × Mem)) (hF : F_X7_dropSeason fl v0 v1 s = some ρ) : MetX l X_X7_dropSeason NF s [.ref v0, .int v1] (rX ρ.1, NF, ρ.2) := by
  unfold F_X7_dropSeason at hF
  obtain ⟨r, hr⟩ : ∃ r : Rs, r = (rX ρ.1, NF, ρ.2) := ⟨_, rfl⟩
  rw [← hr]
  refine metX_of_E rfl rfl (by decide +kernel) hfl rfl (Nat.le_of_ble_eq_true rfl) ?_
  show E l X_X7_dropSeason r false NF s 1 6 0 [(0, .ref v0), (1, .int v1)] []
  refine E_aload_n (j := 0) (i := 0) (q := 0) rfl rfl dX7_dropSeason_0 ?_
  refine E_iload_n (j := 1) (i := 1) (q := 1) rfl rfl dX7_dropSeason_1 ?_
  obtain ⟨q1, h2, hF⟩ := bd_inv hF
  have hM5 := T_X7_requireSeason hfl fl _ _ _ hv0 _ h2
  rcases xb_inv hF with ⟨e6, h4, hF⟩ | ⟨u9, h4, hF⟩
  · rw [h4] at hM5
    exact E_callVX_t (na := 1) (As := [.int v1]) (S := []) (kc := 0) (ks := 0) (ci := 9) rfl rfl hv0 (shape_ord hv0).1 cwV_RX7_153 rfl rfl (by cases hF; exact hr) ⟨Nat.le_of_ble_eq_true rfl, Nat.le_of_ble_eq_true rfl⟩ hM5 rfl rfl (Nat.le_of_ble_eq_true rfl) dX7_dropSeason_2
  · rw [h4] at hM5
    generalize q1.2 = s3 at hF hM5
    refine E_callVX (na := 1) (As := [.int v1]) (S := []) (kc := 0) (ks := 0) (ci := 9) rfl rfl hv0 (shape_ord hv0).1 cwV_RX7_153 ⟨Nat.le_of_ble_eq_true rfl, Nat.le_of_ble_eq_true rfl⟩ hM5 rfl rfl rfl (Nat.le_of_ble_eq_true rfl) dX7_dropSeason_2 ?_
    refine E_aload_n (j := 0) (i := 0) (q := 0) rfl rfl dX7_dropSeason_5 ?_
    obtain ⟨r7, h8, hF⟩ := bd_inv hF
    have h8 := ldO_inv h8
    refine gf_RX7_34 rfl hv0 (shape_ord hv0).1 h8.1 dX7_dropSeason_6 ?_
    refine E_aload_n (j := 0) (i := 0) (q := 0) rfl rfl dX7_dropSeason_9 ?_
    obtain ⟨r9, h10, hF⟩ := bd_inv hF
    have h10 := ldO_inv h10
    refine gf_RX7_20 rfl hv0 (shape_ord hv0).1 h10.1 dX7_dropSeason_10 ?_
    obtain ⟨q11, h12, hF⟩ := bd_inv hF
    refine E_callV (na := 1) (As := [.ref r9]) (S := []) (kc := 0) (ks := 0) (ci := 4) rfl rfl h8.2 (shape_ord h8.2).1 cwV_RX7_75 ⟨Nat.le_of_ble_eq_true rfl, Nat.le_of_ble_eq_true rfl⟩ (T_X2_keep hfl fl _ _ _ h8.2 h10.2 _ h12) rfl rfl rfl (Nat.le_of_ble_eq_true rfl) dX7_dropSeason_13 ?_
    refine E_aload_n (j := 0) (i := 0) (q := 0) rfl rfl dX7_dropSeason_16 ?_
    obtain ⟨r13, h14, hF⟩ := bd_inv hF
    have h14 := ldO_inv h14
    refine gf_RX7_20 rfl hv0 (shape_ord hv0).1 h14.1 dX7_dropSeason_17 ?_
    refine E_iload_n (j := 1) (i := 1) (q := 1) rfl rfl dX7_dropSeason_20 ?_
    obtain ⟨q15, h16, hF⟩ := bd_inv hF
    refine E_callV (na := 1) (As := [.int v1]) (S := []) (kc := 0) (ks := 0) (ci := 3) rfl rfl h14.2 (shape_ord h14.2).1 cwV_RX7_156 ⟨Nat.le_of_ble_eq_true rfl, Nat.le_of_ble_eq_true rfl⟩ (T_X1_removeSeason hfl fl _ _ _ h14.2 _ h16) rfl rfl rfl (Nat.le_of_ble_eq_true rfl) dX7_dropSeason_21 ?_
    refine E_aload_n (j := 0) (i := 0) (q := 0) rfl rfl dX7_dropSeason_24 ?_
    obtain ⟨r17, h18, hF⟩ := bd_inv hF
    have h18 := ldO_inv h18
    refine gf_RX7_20 rfl hv0 (shape_ord hv0).1 h18.1 dX7_dropSeason_25 ?_
    refine gf_RX7_144 rfl h18.2 (shape_ord h18.2).1 dX7_dropSeason_28 ?_
    exact E_iret (Or.inr ⟨rfl, rfl⟩) rfl (by cases hF; exact hr) dX7_dropSeason_31
set_option maxHeartbeats 4000000 in
set_option maxRecDepth 100000 in
theorem T_X7_season {l : Launch} (hfl : l.stackTraces = false) (fl : Nat) (v0 : Nat) (v1 : Int32) (v2 : Int32) (s : Mem) (hv0 : shape v0 = some (.inl 9)) (ρ : ((Nat ⊕ Int32) × Mem)) (hF : F_X7_season fl v0 v1 v2 s = some ρ) : MetX l X_X7_season NF s [.ref v0, .int v1, .int v2] (rX ρ.1, NF, ρ.2) := by
  unfold F_X7_season at hF
  obtain ⟨r, hr⟩ : ∃ r : Rs, r = (rX ρ.1, NF, ρ.2) := ⟨_, rfl⟩
  rw [← hr]
  refine metX_of_E rfl rfl (by decide +kernel) hfl rfl (Nat.le_of_ble_eq_true rfl) ?_
  show E l X_X7_season r false NF s 2 12 0 [(0, .ref v0), (1, .int v1), (2, .int v2)] []
  refine E_aload_n (j := 0) (i := 0) (q := 0) rfl rfl dX7_season_0 ?_
  refine E_iload_n (j := 1) (i := 1) (q := 1) rfl rfl dX7_season_1 ?_
  obtain ⟨q1, h2, hF⟩ := bd_inv hF
  have hM5 := T_X7_requireSeason hfl fl _ _ _ hv0 _ h2
  rcases xb_inv hF with ⟨e6, h4, hF⟩ | ⟨u9, h4, hF⟩
  · rw [h4] at hM5
    exact E_callVX_t (na := 1) (As := [.int v1]) (S := []) (kc := 1) (ks := 6) (ci := 9) rfl rfl hv0 (shape_ord hv0).1 cwV_RX7_153 rfl rfl (by cases hF; exact hr) ⟨Nat.le_of_ble_eq_true rfl, Nat.le_of_ble_eq_true rfl⟩ hM5 rfl rfl (Nat.le_of_ble_eq_true rfl) dX7_season_2
  · rw [h4] at hM5
    generalize q1.2 = s3 at hF hM5
    refine E_callVX (na := 1) (As := [.int v1]) (S := []) (kc := 1) (ks := 6) (ci := 9) rfl rfl hv0 (shape_ord hv0).1 cwV_RX7_153 ⟨Nat.le_of_ble_eq_true rfl, Nat.le_of_ble_eq_true rfl⟩ hM5 rfl rfl rfl (Nat.le_of_ble_eq_true rfl) dX7_season_2 ?_
    refine E_aload_n (j := 0) (i := 0) (q := 0) rfl rfl dX7_season_5 ?_
    obtain ⟨r7, h8, hF⟩ := bd_inv hF
    have h8 := ldO_inv h8
    refine gf_RX7_20 rfl hv0 (shape_ord hv0).1 h8.1 dX7_season_6 ?_
    obtain ⟨r9, h10, hF⟩ := bd_inv hF
    have h10 := ldA_inv h10
    refine gf_RX7_159 rfl h8.2 (shape_ord h8.2).1 h10.1 dX7_season_9 ?_
    refine E_iload_n (j := 1) (i := 1) (q := 1) rfl rfl dX7_season_12 ?_
    obtain ⟨h11, hF⟩ := gd_inv hF
    obtain ⟨r12, h13, hF⟩ := bd_inv hF
    have h13 := ldO_inv h13
    refine E_aald _ ⟨Nat.le_of_ble_eq_true rfl, Nat.le_of_ble_eq_true rfl⟩ h10.2 (shape_ord h10.2).1 h11 h13.1 dX7_season_13 ?_
    refine E_astore_n (j := 3) (i := 3) (L' := [(3, .ref r12), (0, .ref v0), (1, .int v1), (2, .int v2)]) rfl (Nat.le_of_ble_eq_true rfl) rfl dX7_season_14 ?_
    refine E_iload_n (j := 2) (i := 2) (q := 3) rfl rfl dX7_season_15 ?_
    by_cases c14 : v2 = 0
    · have hF := ite_t hF c14
      refine E_tabIn (off := 28) (tgt := 44) (by rw [c14]; decide) (by rw [c14]; decide) (by rw [c14]; rfl) rfl dX7_season_16 ?_
      refine E_aload_n (j := 3) (i := 3) (q := 0) rfl rfl dX7_season_44 ?_
      refine gf_RX7_163 rfl h13.2 (shape_ord h13.2).1 dX7_season_45 ?_
      exact E_iret (Or.inr ⟨rfl, rfl⟩) rfl (by cases hF; exact hr) dX7_season_48
    · have hF := ite_f hF c14
      by_cases c15 : v2 = 1
      · have hF := ite_t hF c15
        refine E_tabIn (off := 33) (tgt := 49) (by rw [c15]; decide) (by rw [c15]; decide) (by rw [c15]; rfl) rfl dX7_season_16 ?_
        refine E_aload_n (j := 3) (i := 3) (q := 0) rfl rfl dX7_season_49 ?_
        refine gf_RX7_168 rfl h13.2 (shape_ord h13.2).1 dX7_season_50 ?_
        exact E_iret (Or.inr ⟨rfl, rfl⟩) rfl (by cases hF; exact hr) dX7_season_53
      · have hF := ite_f hF c15
        by_cases c16 : v2 = 2
        · have hF := ite_t hF c16
          refine E_tabIn (off := 38) (tgt := 54) (by rw [c16]; decide) (by rw [c16]; decide) (by rw [c16]; rfl) rfl dX7_season_16 ?_
          refine E_aload_n (j := 3) (i := 3) (q := 0) rfl rfl dX7_season_54 ?_
          refine gf_RX7_171 rfl h13.2 (shape_ord h13.2).1 dX7_season_55 ?_
          exact E_iret (Or.inr ⟨rfl, rfl⟩) rfl (by cases hF; exact hr) dX7_season_58
        · have hF := ite_f hF c16
          refine E_tabOut (tgt := 59) (tab_out fun z9 z1 z2 => by rcases (show z9 = 0 ∨ z9 = 1 ∨ z9 = 2 by omega) with rfl | rfl | rfl; exact c14; exact c15; exact c16) rfl dX7_season_16 ?_
          exact E_throw (ex := 1) (text := "there is no such number of a season") (kc := 0) (ks := 0) rfl rfl (by cases hF; exact hr) wT193 wT194 (by decide +kernel) at_RX7_64.1 at_RX7_64.2 (by decide +kernel) ⟨Nat.le_of_ble_eq_true rfl, Nat.le_of_ble_eq_true rfl⟩ (Nat.le_of_ble_eq_true rfl) dX7_season_59 dX7_season_62 dX7_season_63 dX7_season_65 dX7_season_68
set_option maxHeartbeats 4000000 in
set_option maxRecDepth 100000 in
theorem T_X7_isStay {l : Launch} (hfl : l.stackTraces = false) (fl : Nat) (v0 : Int32) (v1 : Int32) (s : Mem) (ρ : Int32) (hF : F_X7_isStay fl v0 v1 s = some ρ) : MetN l X_X7_isStay false NF s [.int v0, .int v1] (.inr (some (.int ρ)), NF, s) := by
  unfold F_X7_isStay at hF
  obtain ⟨r, hr⟩ : ∃ r : Rs, r = (.inr (some (.int ρ)), NF, s) := ⟨_, rfl⟩
  rw [← hr]
  refine met_of_E rfl rfl (by decide +kernel) hfl rfl (Nat.le_of_ble_eq_true rfl) ?_
  show E l X_X7_isStay r false NF s 0 0 0 [(0, .int v0), (1, .int v1)] []
  refine E_iload_n (j := 0) (i := 0) (q := 0) rfl rfl dX7_isStay_0 ?_
  obtain ⟨q1, h2, hF⟩ := bd_inv hF
  refine E_callS (na := 1) (As := [.int v0]) (S := []) (kc := 0) (ks := 0) cwS_RX7_138 ⟨Nat.le_of_ble_eq_true rfl, Nat.le_of_ble_eq_true rfl⟩ (T_X7_isNight hfl fl _ _  _ h2) rfl rfl rfl (Nat.le_of_ble_eq_true rfl) dX7_isStay_1 ?_
  refine E_if_eq (tgt := 29) rfl dX7_isStay_4 (fun c3 => ?_) (fun c3 => ?_)
  · have hF := ite_t hF c3
    refine E_iconst (v := (0 : Int32)) rfl dX7_isStay_29 ?_
    exact E_zret (ty := .boolean) (Or.inl rfl) rfl rfl (by cases hF; exact hr) dX7_isStay_30
  · have hF := ite_f hF c3
    refine E_iload_n (j := 1) (i := 1) (q := 1) rfl rfl dX7_isStay_7 ?_
    refine E_iconst (v := (1 : Int32)) rfl dX7_isStay_8 ?_
    refine E_bipush (v := (14 : Int32)) rfl dX7_isStay_9 ?_
    obtain ⟨q4, h5, hF⟩ := bd_inv hF
    refine E_callS (na := 3) (As := [.int v1, .int (1 : Int32), .int (14 : Int32)]) (S := []) (kc := 0) (ks := 0) cwS_RX7_56 ⟨Nat.le_of_ble_eq_true rfl, Nat.le_of_ble_eq_true rfl⟩ (T_X7_isWithin hfl fl _ _ _ _  _ h5) rfl rfl rfl (Nat.le_of_ble_eq_true rfl) dX7_isStay_11 ?_
    refine E_if_eq (tgt := 29) rfl dX7_isStay_14 (fun c6 => ?_) (fun c6 => ?_)
    · have hF := ite_t hF c6
      refine E_iconst (v := (0 : Int32)) rfl dX7_isStay_29 ?_
      exact E_zret (ty := .boolean) (Or.inl rfl) rfl rfl (by cases hF; exact hr) dX7_isStay_30
    · have hF := ite_f hF c6
      refine E_iload_n (j := 1) (i := 1) (q := 1) rfl rfl dX7_isStay_17 ?_
      refine E_bipush (v := (60 : Int32)) rfl dX7_isStay_18 ?_
      refine E_iload_n (j := 0) (i := 0) (q := 0) rfl rfl dX7_isStay_20 ?_
      refine E_isub dX7_isStay_21 ?_
      refine E_icmp_gt (tgt := 29) rfl dX7_isStay_22 (fun c7 => ?_) (fun c7 => ?_)
      · have hF := ite_t hF c7
        refine E_iconst (v := (0 : Int32)) rfl dX7_isStay_29 ?_
        exact E_zret (ty := .boolean) (Or.inl rfl) rfl rfl (by cases hF; exact hr) dX7_isStay_30
      · have hF := ite_f hF c7
        refine E_iconst (v := (1 : Int32)) rfl dX7_isStay_25 ?_
        refine E_goto (tgt := 30) rfl dX7_isStay_26 ?_
        exact E_zret (ty := .boolean) (Or.inl rfl) rfl rfl (by cases hF; exact hr) dX7_isStay_30
set_option maxHeartbeats 4000000 in
set_option maxRecDepth 100000 in
theorem T_X7_leastStay {l : Launch} (hfl : l.stackTraces = false) (fl : Nat) (v0 : Nat) (v1 : Int32) (v2 : Int32) (s : Mem) (hv0 : shape v0 = some (.inl 9)) (ρ : ((Nat ⊕ Int32) × Mem)) (hF : F_X7_leastStay fl v0 v1 v2 s = some ρ) : MetX l X_X7_leastStay NF s [.ref v0, .int v1, .int v2] (rX ρ.1, NF, ρ.2) := by
  unfold F_X7_leastStay at hF
  obtain ⟨r, hr⟩ : ∃ r : Rs, r = (rX ρ.1, NF, ρ.2) := ⟨_, rfl⟩
  rw [← hr]
  refine metX_of_E rfl rfl (by decide +kernel) hfl rfl (Nat.le_of_ble_eq_true rfl) ?_
  show E l X_X7_leastStay r false NF s 1 6 0 [(0, .ref v0), (1, .int v1), (2, .int v2)] []
  refine E_iload_n (j := 1) (i := 1) (q := 1) rfl rfl dX7_leastStay_0 ?_
  refine E_iload_n (j := 2) (i := 2) (q := 2) rfl rfl dX7_leastStay_1 ?_
  obtain ⟨q1, h2, hF⟩ := bd_inv hF
  refine E_callS (na := 2) (As := [.int v1, .int v2]) (S := []) (kc := 1) (ks := 6) cwS_RX7_176 ⟨Nat.le_of_ble_eq_true rfl, Nat.le_of_ble_eq_true rfl⟩ (T_X7_isStay hfl fl _ _ _  _ h2) rfl rfl rfl (Nat.le_of_ble_eq_true rfl) dX7_leastStay_2 ?_
  refine E_if_ne (tgt := 18) rfl dX7_leastStay_5 (fun c3 => ?_) (fun c3 => ?_)
  · have hF := ite_f hF c3
    refine E_aload_n (j := 0) (i := 0) (q := 0) rfl rfl dX7_leastStay_18 ?_
    obtain ⟨r4, h5, hF⟩ := bd_inv hF
    have h5 := ldO_inv h5
    refine gf_RX7_20 rfl hv0 (shape_ord hv0).1 h5.1 dX7_leastStay_19 ?_
    refine E_iload_n (j := 1) (i := 1) (q := 1) rfl rfl dX7_leastStay_22 ?_
    refine E_iload_n (j := 2) (i := 2) (q := 2) rfl rfl dX7_leastStay_23 ?_
    obtain ⟨q6, h7, hF⟩ := bd_inv hF
    refine E_callV (na := 2) (As := [.int v1, .int v2]) (S := []) (kc := 1) (ks := 6) (ci := 3) rfl rfl h5.2 (shape_ord h5.2).1 cwV_RX7_182 ⟨Nat.le_of_ble_eq_true rfl, Nat.le_of_ble_eq_true rfl⟩ (T_X1_stayAsked hfl fl _ _ _ _ h5.2 _ h7) rfl rfl rfl (Nat.le_of_ble_eq_true rfl) dX7_leastStay_24 ?_
    exact E_iret (Or.inr ⟨rfl, rfl⟩) rfl (by cases hF; exact hr) dX7_leastStay_27
  · have hF := ite_t hF c3
    exact E_throw (ex := 1) (text := "a number of the stay is out of range") (kc := 0) (ks := 0) rfl rfl (by cases hF; exact hr) wT193 wT194 (by decide +kernel) at_RX7_64.1 at_RX7_64.2 (by decide +kernel) ⟨Nat.le_of_ble_eq_true rfl, Nat.le_of_ble_eq_true rfl⟩ (Nat.le_of_ble_eq_true rfl) dX7_leastStay_8 dX7_leastStay_11 dX7_leastStay_12 dX7_leastStay_14 dX7_leastStay_17
set_option maxHeartbeats 4000000 in
set_option maxRecDepth 100000 in
theorem T_X7_book_62 {l : Launch} (hfl : l.stackTraces = false) (fl : Nat) {r : Rs} {ρ : ((Nat ⊕ Int32) × Mem)} (hr : r = (rX ρ.1, NF, ρ.2)) (s : Mem) (hF : B_X7_book_62 fl s = some ρ) : E l X_X7_book r false NF s 1 6 62 [] [] := by
  unfold B_X7_book_62 at hF
  exact E_throw (ex := 1) (text := "a number of the party is out of range") (kc := 0) (ks := 0) rfl rfl (by cases hF; exact hr) wT193 wT194 (by decide +kernel) at_RX7_64.1 at_RX7_64.2 (by decide +kernel) ⟨Nat.le_of_ble_eq_true rfl, Nat.le_of_ble_eq_true rfl⟩ (Nat.le_of_ble_eq_true rfl) dX7_book_62 dX7_book_65 dX7_book_66 dX7_book_68 dX7_book_71
set_option maxHeartbeats 4000000 in
set_option maxRecDepth 100000 in
theorem T_X7_book {l : Launch} (hfl : l.stackTraces = false) (fl : Nat) (v0 : Nat) (v1 : Int32) (v2 : Int32) (v3 : Int32) (v4 : Int32) (v5 : Int32) (v6 : Int32) (s : Mem) (hv0 : shape v0 = some (.inl 9)) (ρ : ((Nat ⊕ Int32) × Mem)) (hF : F_X7_book fl v0 v1 v2 v3 v4 v5 v6 s = some ρ) : MetX l X_X7_book NF s [.ref v0, .int v1, .int v2, .int v3, .int v4, .int v5, .int v6] (rX ρ.1, NF, ρ.2) := by
  unfold F_X7_book at hF
  obtain ⟨r, hr⟩ : ∃ r : Rs, r = (rX ρ.1, NF, ρ.2) := ⟨_, rfl⟩
  rw [← hr]
  refine metX_of_E rfl rfl (by decide +kernel) hfl rfl (Nat.le_of_ble_eq_true rfl) ?_
  show E l X_X7_book r false NF s 1 6 0 [(0, .ref v0), (1, .int v1), (2, .int v2), (3, .int v3), (4, .int v4), (5, .int v5), (6, .int v6)] []
  refine E_iload_n (j := 1) (i := 1) (q := 1) rfl rfl dX7_book_0 ?_
  refine E_iconst (v := (0 : Int32)) rfl dX7_book_1 ?_
  refine E_iconst (v := (2 : Int32)) rfl dX7_book_2 ?_
  obtain ⟨q1, h2, hF⟩ := bd_inv hF
  refine E_callS (na := 3) (As := [.int v1, .int (0 : Int32), .int (2 : Int32)]) (S := []) (kc := 1) (ks := 6) cwS_RX7_56 ⟨Nat.le_of_ble_eq_true rfl, Nat.le_of_ble_eq_true rfl⟩ (T_X7_isWithin hfl fl _ _ _ _  _ h2) rfl rfl rfl (Nat.le_of_ble_eq_true rfl) dX7_book_3 ?_
  refine E_if_eq (tgt := 62) rfl dX7_book_6 (fun c3 => ?_) (fun c3 => ?_)
  · have hF := ite_t hF c3
    refine E_sub [] rfl ?_
    exact T_X7_book_62 hfl fl hr  _  hF
  · have hF := ite_f hF c3
    refine E_iload_n (j := 2) (i := 2) (q := 2) rfl rfl dX7_book_9 ?_
    refine E_iconst (v := (1 : Int32)) rfl dX7_book_10 ?_
    refine E_bipush (v := (12 : Int32)) rfl dX7_book_11 ?_
    obtain ⟨q4, h5, hF⟩ := bd_inv hF
    refine E_callS (na := 3) (As := [.int v2, .int (1 : Int32), .int (12 : Int32)]) (S := []) (kc := 1) (ks := 6) cwS_RX7_56 ⟨Nat.le_of_ble_eq_true rfl, Nat.le_of_ble_eq_true rfl⟩ (T_X7_isWithin hfl fl _ _ _ _  _ h5) rfl rfl rfl (Nat.le_of_ble_eq_true rfl) dX7_book_13 ?_
    refine E_if_eq (tgt := 62) rfl dX7_book_16 (fun c6 => ?_) (fun c6 => ?_)
    · have hF := ite_t hF c6
      refine E_sub [] rfl ?_
      exact T_X7_book_62 hfl fl hr  _  hF
    · have hF := ite_f hF c6
      refine E_iload_n (j := 3) (i := 3) (q := 3) rfl rfl dX7_book_19 ?_
      refine E_iconst (v := (1 : Int32)) rfl dX7_book_20 ?_
      refine E_bipush (v := (12 : Int32)) rfl dX7_book_21 ?_
      obtain ⟨q7, h8, hF⟩ := bd_inv hF
      refine E_callS (na := 3) (As := [.int v3, .int (1 : Int32), .int (12 : Int32)]) (S := []) (kc := 1) (ks := 6) cwS_RX7_56 ⟨Nat.le_of_ble_eq_true rfl, Nat.le_of_ble_eq_true rfl⟩ (T_X7_isWithin hfl fl _ _ _ _  _ h8) rfl rfl rfl (Nat.le_of_ble_eq_true rfl) dX7_book_23 ?_
      refine E_if_eq (tgt := 62) rfl dX7_book_26 (fun c9 => ?_) (fun c9 => ?_)
      · have hF := ite_t hF c9
        refine E_sub [] rfl ?_
        exact T_X7_book_62 hfl fl hr  _  hF
      · have hF := ite_f hF c9
        refine E_iload (q := 4) rfl dX7_book_29 ?_
        refine E_iconst (v := (0 : Int32)) rfl dX7_book_31 ?_
        refine E_bipush (v := (16 : Int32)) rfl dX7_book_32 ?_
        obtain ⟨q10, h11, hF⟩ := bd_inv hF
        refine E_callS (na := 3) (As := [.int v4, .int (0 : Int32), .int (16 : Int32)]) (S := []) (kc := 1) (ks := 6) cwS_RX7_56 ⟨Nat.le_of_ble_eq_true rfl, Nat.le_of_ble_eq_true rfl⟩ (T_X7_isWithin hfl fl _ _ _ _  _ h11) rfl rfl rfl (Nat.le_of_ble_eq_true rfl) dX7_book_34 ?_
        refine E_if_eq (tgt := 62) rfl dX7_book_37 (fun c12 => ?_) (fun c12 => ?_)
        · have hF := ite_t hF c12
          refine E_sub [] rfl ?_
          exact T_X7_book_62 hfl fl hr  _  hF
        · have hF := ite_f hF c12
          refine E_iload (q := 5) rfl dX7_book_40 ?_
          refine E_iload (q := 6) rfl dX7_book_42 ?_
          obtain ⟨q13, h14, hF⟩ := bd_inv hF
          refine E_callS (na := 2) (As := [.int v5, .int v6]) (S := []) (kc := 1) (ks := 6) cwS_RX7_176 ⟨Nat.le_of_ble_eq_true rfl, Nat.le_of_ble_eq_true rfl⟩ (T_X7_isStay hfl fl _ _ _  _ h14) rfl rfl rfl (Nat.le_of_ble_eq_true rfl) dX7_book_44 ?_
          refine E_if_eq (tgt := 62) rfl dX7_book_47 (fun c15 => ?_) (fun c15 => ?_)
          · have hF := ite_t hF c15
            refine E_sub [] rfl ?_
            exact T_X7_book_62 hfl fl hr  _  hF
          · have hF := ite_f hF c15
            refine E_iload (q := 5) rfl dX7_book_50 ?_
            refine E_aload_n (j := 0) (i := 0) (q := 0) rfl rfl dX7_book_52 ?_
            obtain ⟨r16, h17, hF⟩ := bd_inv hF
            have h17 := ldO_inv h17
            refine gf_RX7_20 rfl hv0 (shape_ord hv0).1 h17.1 dX7_book_53 ?_
            refine gf_RX7_186 rfl h17.2 (shape_ord h17.2).1 dX7_book_56 ?_
            refine E_icmp_ge (tgt := 72) rfl dX7_book_59 (fun c18 => ?_) (fun c18 => ?_)
            · have hF := ite_t hF c18
              refine E_aload_n (j := 0) (i := 0) (q := 0) rfl rfl dX7_book_72 ?_
              obtain ⟨r19, h20, hF⟩ := bd_inv hF
              have h20 := ldO_inv h20
              refine gf_RX7_20 rfl hv0 (shape_ord hv0).1 h20.1 dX7_book_73 ?_
              refine gf_RX7_191 rfl h20.2 (shape_ord h20.2).1 dX7_book_76 ?_
              refine E_bipush (v := (12 : Int32)) rfl dX7_book_79 ?_
              refine E_icmp_lt (tgt := 94) rfl dX7_book_81 (fun c21 => ?_) (fun c21 => ?_)
              · have hF := ite_t hF c21
                refine E_aload_n (j := 0) (i := 0) (q := 0) rfl rfl dX7_book_94 ?_
                obtain ⟨r22, h23, hF⟩ := bd_inv hF
                have h23 := ldO_inv h23
                refine gf_RX7_12 rfl hv0 (shape_ord hv0).1 h23.1 dX7_book_95 ?_
                obtain ⟨r24, h25, hF⟩ := bd_inv hF
                have h25 := ldO_inv h25
                refine gf_RX7_196 rfl h23.2 (shape_ord h23.2).1 h25.1 dX7_book_98 ?_
                refine E_iload_n (j := 1) (i := 1) (q := 1) rfl rfl dX7_book_101 ?_
                refine E_iload_n (j := 2) (i := 2) (q := 2) rfl rfl dX7_book_102 ?_
                refine E_iload_n (j := 3) (i := 3) (q := 3) rfl rfl dX7_book_103 ?_
                refine E_iload (q := 4) rfl dX7_book_104 ?_
                refine E_iload (q := 5) rfl dX7_book_106 ?_
                refine E_iload (q := 6) rfl dX7_book_108 ?_
                obtain ⟨q26, h27, hF⟩ := bd_inv hF
                refine E_callV (na := 6) (As := [.int v1, .int v2, .int v3, .int v4, .int v5, .int v6]) (S := []) (kc := 1) (ks := 6) (ci := 5) rfl rfl h25.2 (shape_ord h25.2).1 cwV_RX7_200 ⟨Nat.le_of_ble_eq_true rfl, Nat.le_of_ble_eq_true rfl⟩ (T_X3_describe hfl fl _ _ _ _ _ _ _ _ h25.2 _ h27) rfl rfl rfl (Nat.le_of_ble_eq_true rfl) dX7_book_110 ?_
                refine E_aload_n (j := 0) (i := 0) (q := 0) rfl rfl dX7_book_113 ?_
                obtain ⟨r28, h29, hF⟩ := bd_inv hF
                have h29 := ldO_inv h29
                refine gf_RX7_12 rfl hv0 (shape_ord hv0).1 h29.1 dX7_book_114 ?_
                obtain ⟨q30, h31, hF⟩ := bd_inv hF
                refine E_callV (na := 0) (As := []) (S := []) (kc := 1) (ks := 6) (ci := 7) rfl rfl h29.2 (shape_ord h29.2).1 cwV_RX7_206 ⟨Nat.le_of_ble_eq_true rfl, Nat.le_of_ble_eq_true rfl⟩ (T_X5_findBestPlan hfl fl _ _ h29.2 _ h31) rfl rfl rfl (Nat.le_of_ble_eq_true rfl) dX7_book_117 ?_
                refine E_if_ne (tgt := 151) rfl dX7_book_120 (fun c32 => ?_) (fun c32 => ?_)
                · have hF := ite_f hF c32
                  refine E_aload_n (j := 0) (i := 0) (q := 0) rfl rfl dX7_book_151 ?_
                  obtain ⟨r33, h34, hF⟩ := bd_inv hF
                  have h34 := ldO_inv h34
                  refine gf_RX7_34 rfl hv0 (shape_ord hv0).1 h34.1 dX7_book_152 ?_
                  refine E_aload_n (j := 0) (i := 0) (q := 0) rfl rfl dX7_book_155 ?_
                  obtain ⟨r35, h36, hF⟩ := bd_inv hF
                  have h36 := ldO_inv h36
                  refine gf_RX7_20 rfl hv0 (shape_ord hv0).1 h36.1 dX7_book_156 ?_
                  obtain ⟨q37, h38, hF⟩ := bd_inv hF
                  refine E_callV (na := 1) (As := [.ref r35]) (S := []) (kc := 1) (ks := 6) (ci := 4) rfl rfl h34.2 (shape_ord h34.2).1 cwV_RX7_75 ⟨Nat.le_of_ble_eq_true rfl, Nat.le_of_ble_eq_true rfl⟩ (T_X2_keep hfl fl _ _ _ h34.2 h36.2 _ h38) rfl rfl rfl (Nat.le_of_ble_eq_true rfl) dX7_book_159 ?_
                  refine E_aload_n (j := 0) (i := 0) (q := 0) rfl rfl dX7_book_162 ?_
                  refine E_aload_n (j := 0) (i := 0) (q := 0) rfl rfl dX7_book_163 ?_
                  obtain ⟨r39, h40, hF⟩ := bd_inv hF
                  have h40 := ldO_inv h40
                  refine gf_RX7_12 rfl hv0 (shape_ord hv0).1 h40.1 dX7_book_164 ?_
                  refine E_aload_n (j := 0) (i := 0) (q := 0) rfl rfl dX7_book_167 ?_
                  obtain ⟨r41, h42, hF⟩ := bd_inv hF
                  have h42 := ldA_inv h42
                  refine gf_RX7_52 rfl hv0 (shape_ord hv0).1 h42.1 dX7_book_168 ?_
                  obtain ⟨q43, h44, hF⟩ := bd_inv hF
                  refine E_callV (na := 1) (As := [.ref r41.1]) (S := [.ref v0]) (kc := 1) (ks := 6) (ci := 7) rfl rfl h40.2 (shape_ord h40.2).1 cwV_RX7_219 ⟨Nat.le_of_ble_eq_true rfl, Nat.le_of_ble_eq_true rfl⟩ (T_X5_writeMoves hfl fl _ _ _ h40.2 _ h44) rfl rfl rfl (Nat.le_of_ble_eq_true rfl) dX7_book_171 ?_
                  refine pf_RX7_49 rfl hv0 (shape_ord hv0).1 dX7_book_174 ?_
                  obtain ⟨m45, e46, hF⟩ := nx_inv hF
                  refine E_mem e46 ?_
                  refine E_aload_n (j := 0) (i := 0) (q := 0) rfl rfl dX7_book_177 ?_
                  obtain ⟨r47, h48, hF⟩ := bd_inv hF
                  have h48 := ldO_inv h48
                  refine gf_RX7_12 rfl hv0 (shape_ord hv0).1 h48.1 dX7_book_178 ?_
                  obtain ⟨q49, h50, hF⟩ := bd_inv hF
                  refine E_callV (na := 0) (As := []) (S := []) (kc := 1) (ks := 6) (ci := 7) rfl rfl h48.2 (shape_ord h48.2).1 cwV_RX7_223 ⟨Nat.le_of_ble_eq_true rfl, Nat.le_of_ble_eq_true rfl⟩ (T_X5_carryOut hfl fl _ _ h48.2 _ h50) rfl rfl rfl (Nat.le_of_ble_eq_true rfl) dX7_book_181 ?_
                  exact E_iret (Or.inr ⟨rfl, rfl⟩) rfl (by cases hF; exact hr) dX7_book_184
                · have hF := ite_t hF c32
                  refine E_aload_n (j := 0) (i := 0) (q := 0) rfl rfl dX7_book_123 ?_
                  refine E_aload_n (j := 0) (i := 0) (q := 0) rfl rfl dX7_book_124 ?_
                  obtain ⟨r51, h52, hF⟩ := bd_inv hF
                  have h52 := ldO_inv h52
                  refine gf_RX7_20 rfl hv0 (shape_ord hv0).1 h52.1 dX7_book_125 ?_
                  refine E_aload_n (j := 0) (i := 0) (q := 0) rfl rfl dX7_book_128 ?_
                  obtain ⟨r53, h54, hF⟩ := bd_inv hF
                  have h54 := ldO_inv h54
                  refine gf_RX7_12 rfl hv0 (shape_ord hv0).1 h54.1 dX7_book_129 ?_
                  obtain ⟨r55, h56, hF⟩ := bd_inv hF
                  have h56 := ldO_inv h56
                  refine gf_RX7_196 rfl h54.2 (shape_ord h54.2).1 h56.1 dX7_book_132 ?_
                  obtain ⟨q57, h58, hF⟩ := bd_inv hF
                  refine E_callV (na := 1) (As := [.ref r55]) (S := [.ref v0]) (kc := 1) (ks := 6) (ci := 3) rfl rfl h52.2 (shape_ord h52.2).1 cwV_RX7_210 ⟨Nat.le_of_ble_eq_true rfl, Nat.le_of_ble_eq_true rfl⟩ (T_X1_greatestObstacle hfl fl _ _ _ h52.2 h56.2 _ h58) rfl rfl rfl (Nat.le_of_ble_eq_true rfl) dX7_book_135 ?_
                  refine pf_RX7_45 rfl hv0 (shape_ord hv0).1 dX7_book_138 ?_
                  obtain ⟨m59, e60, hF⟩ := nx_inv hF
                  refine E_mem e60 ?_
                  exact E_throw (ex := 5) (text := "no plan is right") (kc := 0) (ks := 0) rfl rfl (by cases hF; exact hr) wT262 wT263 (by decide +kernel) at_RX7_218.1 at_RX7_218.2 (by decide +kernel) ⟨Nat.le_of_ble_eq_true rfl, Nat.le_of_ble_eq_true rfl⟩ (Nat.le_of_ble_eq_true rfl) dX7_book_141 dX7_book_144 dX7_book_145 dX7_book_147 dX7_book_150
              · have hF := ite_f hF c21
                exact E_throw (ex := 2) (text := "all parties are booked") (kc := 0) (ks := 0) rfl rfl (by cases hF; exact hr) wT207 wT208 (by decide +kernel) at_RX7_74.1 at_RX7_74.2 (by decide +kernel) ⟨Nat.le_of_ble_eq_true rfl, Nat.le_of_ble_eq_true rfl⟩ (Nat.le_of_ble_eq_true rfl) dX7_book_84 dX7_book_87 dX7_book_88 dX7_book_90 dX7_book_93
            · have hF := ite_f hF c18
              refine E_sub [] rfl ?_
              exact T_X7_book_62 hfl fl hr  _  hF
set_option maxHeartbeats 4000000 in
set_option maxRecDepth 100000 in
theorem T_X7_append {l : Launch} (hfl : l.stackTraces = false) (fl : Nat) (v0 : Nat) (v1 : Int32) (s : Mem) (hv0 : shape v0 = some (.inl 9)) (ρ : ((Nat ⊕ Unit) × Mem)) (hF : F_X7_append fl v0 v1 s = some ρ) : MetX l X_X7_append NF s [.ref v0, .int v1] (rXv ρ.1, NF, ρ.2) := by
  unfold F_X7_append at hF
  obtain ⟨r, hr⟩ : ∃ r : Rs, r = (rXv ρ.1, NF, ρ.2) := ⟨_, rfl⟩
  rw [← hr]
  refine metX_of_E rfl rfl (by decide +kernel) hfl rfl (Nat.le_of_ble_eq_true rfl) ?_
  show E l X_X7_append r false NF s 1 6 0 [(0, .ref v0), (1, .int v1)] []
  refine E_aload_n (j := 0) (i := 0) (q := 0) rfl rfl dX7_append_0 ?_
  obtain ⟨r1, h2, hF⟩ := bd_inv hF
  have h2 := ldO_inv h2
  refine gf_RX7_41 rfl hv0 (shape_ord hv0).1 h2.1 dX7_append_1 ?_
  refine E_iload_n (j := 1) (i := 1) (q := 1) rfl rfl dX7_append_4 ?_
  obtain ⟨q3, h4, hF⟩ := bd_inv hF
  refine E_callV (na := 1) (As := [.int v1]) (S := []) (kc := 1) (ks := 6) (ci := 2) rfl rfl h2.2 (shape_ord h2.2).1 cwV_RX7_227 ⟨Nat.le_of_ble_eq_true rfl, Nat.le_of_ble_eq_true rfl⟩ (T_X0_add hfl fl _ _ _ h2.2 _ h4) rfl rfl rfl (Nat.le_of_ble_eq_true rfl) dX7_append_5 ?_
  refine E_if_ne (tgt := 21) rfl dX7_append_8 (fun c5 => ?_) (fun c5 => ?_)
  · have hF := ite_f hF c5
    exact E_vret (Or.inr ⟨rfl, rfl⟩) rfl (by cases hF; exact hr) dX7_append_21
  · have hF := ite_t hF c5
    exact E_throw (ex := 2) (text := "the buffer is full") (kc := 0) (ks := 0) rfl rfl (by cases hF; exact hr) wT207 wT208 (by decide +kernel) at_RX7_74.1 at_RX7_74.2 (by decide +kernel) ⟨Nat.le_of_ble_eq_true rfl, Nat.le_of_ble_eq_true rfl⟩ (Nat.le_of_ble_eq_true rfl) dX7_append_11 dX7_append_14 dX7_append_15 dX7_append_17 dX7_append_20
set_option maxHeartbeats 4000000 in
set_option maxRecDepth 100000 in
theorem T_X7_readBooking {l : Launch} (hfl : l.stackTraces = false) (fl : Nat) (v0 : Nat) (s : Mem) (hv0 : shape v0 = some (.inl 9)) (ρ : ((Nat ⊕ Int32) × Mem)) (hF : F_X7_readBooking fl v0 s = some ρ) : MetX l X_X7_readBooking NF s [.ref v0] (rX ρ.1, NF, ρ.2) := by
  unfold F_X7_readBooking at hF
  obtain ⟨r, hr⟩ : ∃ r : Rs, r = (rX ρ.1, NF, ρ.2) := ⟨_, rfl⟩
  rw [← hr]
  refine metX_of_E rfl rfl (by decide +kernel) hfl rfl (Nat.le_of_ble_eq_true rfl) ?_
  show E l X_X7_readBooking r false NF s 1 6 0 [(0, .ref v0)] []
  refine E_aload_n (j := 0) (i := 0) (q := 0) rfl rfl dX7_readBooking_0 ?_
  obtain ⟨r1, h2, hF⟩ := bd_inv hF
  have h2 := ldO_inv h2
  refine gf_RX7_41 rfl hv0 (shape_ord hv0).1 h2.1 dX7_readBooking_1 ?_
  obtain ⟨q3, h4, hF⟩ := bd_inv hF
  refine E_callV (na := 0) (As := []) (S := []) (kc := 1) (ks := 6) (ci := 2) rfl rfl h2.2 (shape_ord h2.2).1 cwV_RX7_233 ⟨Nat.le_of_ble_eq_true rfl, Nat.le_of_ble_eq_true rfl⟩ (T_X0_parse hfl fl _ _ h2.2 _ h4) rfl rfl rfl (Nat.le_of_ble_eq_true rfl) dX7_readBooking_4 ?_
  refine E_if_ne (tgt := 20) rfl dX7_readBooking_7 (fun c5 => ?_) (fun c5 => ?_)
  · have hF := ite_f hF c5
    refine E_aload_n (j := 0) (i := 0) (q := 0) rfl rfl dX7_readBooking_20 ?_
    obtain ⟨r6, h7, hF⟩ := bd_inv hF
    have h7 := ldO_inv h7
    refine gf_RX7_41 rfl hv0 (shape_ord hv0).1 h7.1 dX7_readBooking_21 ?_
    obtain ⟨r8, h9, hF⟩ := bd_inv hF
    have h9 := ldA_inv h9
    refine gf_RX7_238 rfl h7.2 (shape_ord h7.2).1 h9.1 dX7_readBooking_24 ?_
    refine E_astore_n (j := 1) (i := 1) (L' := [(1, .ref r8.1), (0, .ref v0)]) rfl (Nat.le_of_ble_eq_true rfl) rfl dX7_readBooking_27 ?_
    refine E_aload_n (j := 0) (i := 0) (q := 1) rfl rfl dX7_readBooking_28 ?_
    refine E_aload_n (j := 0) (i := 0) (q := 1) rfl rfl dX7_readBooking_29 ?_
    obtain ⟨r10, h11, hF⟩ := bd_inv hF
    have h11 := ldO_inv h11
    refine gf_RX7_41 rfl hv0 (shape_ord hv0).1 h11.1 dX7_readBooking_30 ?_
    refine gf_RX7_241 rfl h11.2 (shape_ord h11.2).1 dX7_readBooking_33 ?_
    refine E_aload_n (j := 1) (i := 1) (q := 0) rfl rfl dX7_readBooking_36 ?_
    refine E_iconst (v := (0 : Int32)) rfl dX7_readBooking_37 ?_
    obtain ⟨h12, hF⟩ := gd_inv hF
    refine E_iald _ h9.2 (shape_ord h9.2).1 h12 dX7_readBooking_38 ?_
    refine E_aload_n (j := 1) (i := 1) (q := 0) rfl rfl dX7_readBooking_39 ?_
    refine E_iconst (v := (1 : Int32)) rfl dX7_readBooking_40 ?_
    obtain ⟨h13, hF⟩ := gd_inv hF
    refine E_iald _ h9.2 (shape_ord h9.2).1 h13 dX7_readBooking_41 ?_
    refine E_aload_n (j := 1) (i := 1) (q := 0) rfl rfl dX7_readBooking_42 ?_
    refine E_iconst (v := (4 : Int32)) rfl dX7_readBooking_43 ?_
    obtain ⟨h14, hF⟩ := gd_inv hF
    refine E_iald _ h9.2 (shape_ord h9.2).1 h14 dX7_readBooking_44 ?_
    refine E_aload_n (j := 1) (i := 1) (q := 0) rfl rfl dX7_readBooking_45 ?_
    refine E_iconst (v := (2 : Int32)) rfl dX7_readBooking_46 ?_
    obtain ⟨h15, hF⟩ := gd_inv hF
    refine E_iald _ h9.2 (shape_ord h9.2).1 h15 dX7_readBooking_47 ?_
    refine E_aload_n (j := 1) (i := 1) (q := 0) rfl rfl dX7_readBooking_48 ?_
    refine E_iconst (v := (3 : Int32)) rfl dX7_readBooking_49 ?_
    obtain ⟨h16, hF⟩ := gd_inv hF
    refine E_iald _ h9.2 (shape_ord h9.2).1 h16 dX7_readBooking_50 ?_
    obtain ⟨q17, h18, hF⟩ := bd_inv hF
    have hM22 := T_X7_book hfl fl _ _ _ _ _ _ _ _ hv0 _ h18
    rcases xb_inv hF with ⟨e23, h21, hF⟩ | ⟨x19, h21, hF⟩
    · rw [h21] at hM22
      exact E_callVX_t (na := 6) (As := [.int (gI q3.2 r10 4), .int (gI q3.2 r8.1 (0 : Int32).toNatClampNeg), .int (gI q3.2 r8.1 (1 : Int32).toNatClampNeg), .int (gI q3.2 r8.1 (4 : Int32).toNatClampNeg), .int (gI q3.2 r8.1 (2 : Int32).toNatClampNeg), .int (gI q3.2 r8.1 (3 : Int32).toNatClampNeg)]) (S := []) (kc := 0) (ks := 0) (ci := 9) rfl rfl hv0 (shape_ord hv0).1 cwV_RX7_242 rfl rfl (by cases hF; exact hr) ⟨Nat.le_of_ble_eq_true rfl, Nat.le_of_ble_eq_true rfl⟩ hM22 rfl rfl (Nat.le_of_ble_eq_true rfl) dX7_readBooking_51
    · rw [h21] at hM22
      generalize q17.2 = s20 at hF hM22
      refine E_callVX (na := 6) (As := [.int (gI q3.2 r10 4), .int (gI q3.2 r8.1 (0 : Int32).toNatClampNeg), .int (gI q3.2 r8.1 (1 : Int32).toNatClampNeg), .int (gI q3.2 r8.1 (4 : Int32).toNatClampNeg), .int (gI q3.2 r8.1 (2 : Int32).toNatClampNeg), .int (gI q3.2 r8.1 (3 : Int32).toNatClampNeg)]) (S := []) (kc := 0) (ks := 0) (ci := 9) rfl rfl hv0 (shape_ord hv0).1 cwV_RX7_242 ⟨Nat.le_of_ble_eq_true rfl, Nat.le_of_ble_eq_true rfl⟩ hM22 rfl rfl rfl (Nat.le_of_ble_eq_true rfl) dX7_readBooking_51 ?_
      exact E_iret (Or.inr ⟨rfl, rfl⟩) rfl (by cases hF; exact hr) dX7_readBooking_54
  · have hF := ite_t hF c5
    exact E_throw (ex := 1) (text := "the text has a fault") (kc := 0) (ks := 0) rfl rfl (by cases hF; exact hr) wT193 wT194 (by decide +kernel) at_RX7_64.1 at_RX7_64.2 (by decide +kernel) ⟨Nat.le_of_ble_eq_true rfl, Nat.le_of_ble_eq_true rfl⟩ (Nat.le_of_ble_eq_true rfl) dX7_readBooking_10 dX7_readBooking_13 dX7_readBooking_14 dX7_readBooking_16 dX7_readBooking_19
set_option maxHeartbeats 4000000 in
set_option maxRecDepth 100000 in
theorem T_X7_faultPosition {l : Launch} (hfl : l.stackTraces = false) (fl : Nat) (v0 : Nat) (s : Mem) (hv0 : shape v0 = some (.inl 9)) (ρ : Int32) (hF : F_X7_faultPosition fl v0 s = some ρ) : MetN l X_X7_faultPosition false NF s [.ref v0] (.inr (some (.int ρ)), NF, s) := by
  unfold F_X7_faultPosition at hF
  obtain ⟨r, hr⟩ : ∃ r : Rs, r = (.inr (some (.int ρ)), NF, s) := ⟨_, rfl⟩
  rw [← hr]
  refine met_of_E rfl rfl (by decide +kernel) hfl rfl (Nat.le_of_ble_eq_true rfl) ?_
  show E l X_X7_faultPosition r false NF s 0 0 0 [(0, .ref v0)] []
  refine E_aload_n (j := 0) (i := 0) (q := 0) rfl rfl dX7_faultPosition_0 ?_
  obtain ⟨r1, h2, hF⟩ := bd_inv hF
  have h2 := ldO_inv h2
  refine gf_RX7_41 rfl hv0 (shape_ord hv0).1 h2.1 dX7_faultPosition_1 ?_
  refine gf_RX7_246 rfl h2.2 (shape_ord h2.2).1 dX7_faultPosition_4 ?_
  exact E_iret (Or.inl rfl) rfl (by cases hF; exact hr) dX7_faultPosition_7
set_option maxHeartbeats 4000000 in
set_option maxRecDepth 100000 in
theorem T_X7_refusal {l : Launch} (hfl : l.stackTraces = false) (fl : Nat) (v0 : Nat) (s : Mem) (hv0 : shape v0 = some (.inl 9)) (ρ : ((Nat ⊕ Int32) × Mem)) (hF : F_X7_refusal fl v0 s = some ρ) : MetX l X_X7_refusal NF s [.ref v0] (rX ρ.1, NF, ρ.2) := by
  unfold F_X7_refusal at hF
  obtain ⟨r, hr⟩ : ∃ r : Rs, r = (rX ρ.1, NF, ρ.2) := ⟨_, rfl⟩
  rw [← hr]
  refine metX_of_E rfl rfl (by decide +kernel) hfl rfl (Nat.le_of_ble_eq_true rfl) ?_
  show E l X_X7_refusal r false NF s 1 6 0 [(0, .ref v0)] []
  refine E_aload_n (j := 0) (i := 0) (q := 0) rfl rfl dX7_refusal_0 ?_
  refine gf_RX7_45 rfl hv0 (shape_ord hv0).1 dX7_refusal_1 ?_
  refine E_if_ne (tgt := 17) rfl dX7_refusal_4 (fun c1 => ?_) (fun c1 => ?_)
  · have hF := ite_f hF c1
    refine E_aload_n (j := 0) (i := 0) (q := 0) rfl rfl dX7_refusal_17 ?_
    refine gf_RX7_45 rfl hv0 (shape_ord hv0).1 dX7_refusal_18 ?_
    exact E_iret (Or.inr ⟨rfl, rfl⟩) rfl (by cases hF; exact hr) dX7_refusal_21
  · have hF := ite_t hF c1
    exact E_throwN (ex := 6) (text := "no booking was refused") (kc := 0) (ks := 0) (rx := prog_24_method_4_code) (by decide +kernel) (by decide +kernel) (by decide +kernel) (by decide +kernel) rfl rfl (by cases hF; exact hr) wT276 wT277 (by decide +kernel) at_RX7_253.1 at_RX7_253.2 (by decide +kernel) ⟨Nat.le_of_ble_eq_true rfl, Nat.le_of_ble_eq_true rfl⟩ (Nat.le_of_ble_eq_true rfl) dX7_refusal_7 dX7_refusal_10 dX7_refusal_11 dX7_refusal_13 dX7_refusal_16
set_option maxHeartbeats 4000000 in
set_option maxRecDepth 100000 in
theorem T_X7_requireParty {l : Launch} (hfl : l.stackTraces = false) (fl : Nat) (v0 : Nat) (v1 : Int32) (s : Mem) (hv0 : shape v0 = some (.inl 9)) (ρ : ((Nat ⊕ Unit) × Mem)) (hF : F_X7_requireParty fl v0 v1 s = some ρ) : MetX l X_X7_requireParty NF s [.ref v0, .int v1] (rXv ρ.1, NF, ρ.2) := by
  unfold F_X7_requireParty at hF
  obtain ⟨r, hr⟩ : ∃ r : Rs, r = (rXv ρ.1, NF, ρ.2) := ⟨_, rfl⟩
  rw [← hr]
  refine metX_of_E rfl rfl (by decide +kernel) hfl rfl (Nat.le_of_ble_eq_true rfl) ?_
  show E l X_X7_requireParty r false NF s 1 6 0 [(0, .ref v0), (1, .int v1)] []
  refine E_iload_n (j := 1) (i := 1) (q := 1) rfl rfl dX7_requireParty_0 ?_
  refine E_iconst (v := (0 : Int32)) rfl dX7_requireParty_1 ?_
  refine E_aload_n (j := 0) (i := 0) (q := 0) rfl rfl dX7_requireParty_2 ?_
  obtain ⟨r1, h2, hF⟩ := bd_inv hF
  have h2 := ldO_inv h2
  refine gf_RX7_20 rfl hv0 (shape_ord hv0).1 h2.1 dX7_requireParty_3 ?_
  refine gf_RX7_191 rfl h2.2 (shape_ord h2.2).1 dX7_requireParty_6 ?_
  refine E_iconst (v := (1 : Int32)) rfl dX7_requireParty_9 ?_
  refine E_isub dX7_requireParty_10 ?_
  obtain ⟨q3, h4, hF⟩ := bd_inv hF
  refine E_callS (na := 3) (As := [.int v1, .int (0 : Int32), .int ((gI s r1 3) - (1 : Int32))]) (S := []) (kc := 1) (ks := 6) cwS_RX7_56 ⟨Nat.le_of_ble_eq_true rfl, Nat.le_of_ble_eq_true rfl⟩ (T_X7_isWithin hfl fl _ _ _ _  _ h4) rfl rfl rfl (Nat.le_of_ble_eq_true rfl) dX7_requireParty_11 ?_
  refine E_if_ne (tgt := 28) rfl dX7_requireParty_14 (fun c5 => ?_) (fun c5 => ?_)
  · have hF := ite_f hF c5
    exact E_vret (Or.inr ⟨rfl, rfl⟩) rfl (by cases hF; exact hr) dX7_requireParty_28
  · have hF := ite_t hF c5
    exact E_throwW (ex := 3) (text := "there is no such party") (kc := 0) (ks := 0) rfl rfl (by cases hF; exact hr) wT210 wT211 (by decide +kernel) at_RX7_386.1 at_RX7_386.2 (by decide +kernel) ⟨Nat.le_of_ble_eq_true rfl, Nat.le_of_ble_eq_true rfl⟩ (Nat.le_of_ble_eq_true rfl) dX7_requireParty_17 dX7_requireParty_20 dX7_requireParty_21 dX7_requireParty_24 dX7_requireParty_27
set_option maxHeartbeats 4000000 in
set_option maxRecDepth 100000 in
theorem T_X7_party {l : Launch} (hfl : l.stackTraces = false) (fl : Nat) (v0 : Nat) (v1 : Int32) (v2 : Int32) (s : Mem) (hv0 : shape v0 = some (.inl 9)) (ρ : ((Nat ⊕ Int32) × Mem)) (hF : F_X7_party fl v0 v1 v2 s = some ρ) : MetX l X_X7_party NF s [.ref v0, .int v1, .int v2] (rX ρ.1, NF, ρ.2) := by
  unfold F_X7_party at hF
  obtain ⟨r, hr⟩ : ∃ r : Rs, r = (rX ρ.1, NF, ρ.2) := ⟨_, rfl⟩
  rw [← hr]
  refine metX_of_E rfl rfl (by decide +kernel) hfl rfl (Nat.le_of_ble_eq_true rfl) ?_
  show E l X_X7_party r false NF s 2 12 0 [(0, .ref v0), (1, .int v1), (2, .int v2)] []
  refine E_aload_n (j := 0) (i := 0) (q := 0) rfl rfl dX7_party_0 ?_
  refine E_iload_n (j := 1) (i := 1) (q := 1) rfl rfl dX7_party_1 ?_
  obtain ⟨q1, h2, hF⟩ := bd_inv hF
  have hM5 := T_X7_requireParty hfl fl _ _ _ hv0 _ h2
  rcases xb_inv hF with ⟨e6, h4, hF⟩ | ⟨u9, h4, hF⟩
  · rw [h4] at hM5
    exact E_callVX_t (na := 1) (As := [.int v1]) (S := []) (kc := 1) (ks := 6) (ci := 9) rfl rfl hv0 (shape_ord hv0).1 cwV_RX7_254 rfl rfl (by cases hF; exact hr) ⟨Nat.le_of_ble_eq_true rfl, Nat.le_of_ble_eq_true rfl⟩ hM5 rfl rfl (Nat.le_of_ble_eq_true rfl) dX7_party_2
  · rw [h4] at hM5
    generalize q1.2 = s3 at hF hM5
    refine E_callVX (na := 1) (As := [.int v1]) (S := []) (kc := 1) (ks := 6) (ci := 9) rfl rfl hv0 (shape_ord hv0).1 cwV_RX7_254 ⟨Nat.le_of_ble_eq_true rfl, Nat.le_of_ble_eq_true rfl⟩ hM5 rfl rfl rfl (Nat.le_of_ble_eq_true rfl) dX7_party_2 ?_
    refine E_aload_n (j := 0) (i := 0) (q := 0) rfl rfl dX7_party_5 ?_
    obtain ⟨r7, h8, hF⟩ := bd_inv hF
    have h8 := ldO_inv h8
    refine gf_RX7_20 rfl hv0 (shape_ord hv0).1 h8.1 dX7_party_6 ?_
    obtain ⟨r9, h10, hF⟩ := bd_inv hF
    have h10 := ldA_inv h10
    refine gf_RX7_257 rfl h8.2 (shape_ord h8.2).1 h10.1 dX7_party_9 ?_
    refine E_iload_n (j := 1) (i := 1) (q := 1) rfl rfl dX7_party_12 ?_
    obtain ⟨h11, hF⟩ := gd_inv hF
    obtain ⟨r12, h13, hF⟩ := bd_inv hF
    have h13 := ldO_inv h13
    refine E_aald _ ⟨Nat.le_of_ble_eq_true rfl, Nat.le_of_ble_eq_true rfl⟩ h10.2 (shape_ord h10.2).1 h11 h13.1 dX7_party_13 ?_
    refine E_astore_n (j := 3) (i := 3) (L' := [(3, .ref r12), (0, .ref v0), (1, .int v1), (2, .int v2)]) rfl (Nat.le_of_ble_eq_true rfl) rfl dX7_party_14 ?_
    refine E_iload_n (j := 2) (i := 2) (q := 3) rfl rfl dX7_party_15 ?_
    by_cases c14 : v2 = 0
    · have hF := ite_t hF c14
      refine E_tabIn (off := 56) (tgt := 72) (by rw [c14]; decide) (by rw [c14]; decide) (by rw [c14]; rfl) rfl dX7_party_16 ?_
      refine E_aload_n (j := 3) (i := 3) (q := 0) rfl rfl dX7_party_72 ?_
      refine gf_RX7_261 rfl h13.2 (shape_ord h13.2).1 dX7_party_73 ?_
      exact E_iret (Or.inr ⟨rfl, rfl⟩) rfl (by cases hF; exact hr) dX7_party_76
    · have hF := ite_f hF c14
      by_cases c15 : v2 = 1
      · have hF := ite_t hF c15
        refine E_tabIn (off := 61) (tgt := 77) (by rw [c15]; decide) (by rw [c15]; decide) (by rw [c15]; rfl) rfl dX7_party_16 ?_
        refine E_aload_n (j := 3) (i := 3) (q := 0) rfl rfl dX7_party_77 ?_
        refine gf_RX7_262 rfl h13.2 (shape_ord h13.2).1 dX7_party_78 ?_
        exact E_iret (Or.inr ⟨rfl, rfl⟩) rfl (by cases hF; exact hr) dX7_party_81
      · have hF := ite_f hF c15
        by_cases c16 : v2 = 2
        · have hF := ite_t hF c16
          refine E_tabIn (off := 66) (tgt := 82) (by rw [c16]; decide) (by rw [c16]; decide) (by rw [c16]; rfl) rfl dX7_party_16 ?_
          refine E_aload_n (j := 3) (i := 3) (q := 0) rfl rfl dX7_party_82 ?_
          refine gf_RX7_263 rfl h13.2 (shape_ord h13.2).1 dX7_party_83 ?_
          exact E_iret (Or.inr ⟨rfl, rfl⟩) rfl (by cases hF; exact hr) dX7_party_86
        · have hF := ite_f hF c16
          by_cases c17 : v2 = 3
          · have hF := ite_t hF c17
            refine E_tabIn (off := 71) (tgt := 87) (by rw [c17]; decide) (by rw [c17]; decide) (by rw [c17]; rfl) rfl dX7_party_16 ?_
            refine E_aload_n (j := 3) (i := 3) (q := 0) rfl rfl dX7_party_87 ?_
            refine gf_RX7_264 rfl h13.2 (shape_ord h13.2).1 dX7_party_88 ?_
            exact E_iret (Or.inr ⟨rfl, rfl⟩) rfl (by cases hF; exact hr) dX7_party_91
          · have hF := ite_f hF c17
            by_cases c18 : v2 = 4
            · have hF := ite_t hF c18
              refine E_tabIn (off := 76) (tgt := 92) (by rw [c18]; decide) (by rw [c18]; decide) (by rw [c18]; rfl) rfl dX7_party_16 ?_
              refine E_aload_n (j := 3) (i := 3) (q := 0) rfl rfl dX7_party_92 ?_
              refine gf_RX7_267 rfl h13.2 (shape_ord h13.2).1 dX7_party_93 ?_
              exact E_iret (Or.inr ⟨rfl, rfl⟩) rfl (by cases hF; exact hr) dX7_party_96
            · have hF := ite_f hF c18
              by_cases c19 : v2 = 5
              · have hF := ite_t hF c19
                refine E_tabIn (off := 81) (tgt := 97) (by rw [c19]; decide) (by rw [c19]; decide) (by rw [c19]; rfl) rfl dX7_party_16 ?_
                refine E_aload_n (j := 3) (i := 3) (q := 0) rfl rfl dX7_party_97 ?_
                refine gf_RX7_268 rfl h13.2 (shape_ord h13.2).1 dX7_party_98 ?_
                exact E_iret (Or.inr ⟨rfl, rfl⟩) rfl (by cases hF; exact hr) dX7_party_101
              · have hF := ite_f hF c19
                by_cases c20 : v2 = 6
                · have hF := ite_t hF c20
                  refine E_tabIn (off := 86) (tgt := 102) (by rw [c20]; decide) (by rw [c20]; decide) (by rw [c20]; rfl) rfl dX7_party_16 ?_
                  refine E_aload_n (j := 3) (i := 3) (q := 0) rfl rfl dX7_party_102 ?_
                  refine gf_RX7_271 rfl h13.2 (shape_ord h13.2).1 dX7_party_103 ?_
                  exact E_iret (Or.inr ⟨rfl, rfl⟩) rfl (by cases hF; exact hr) dX7_party_106
                · have hF := ite_f hF c20
                  by_cases c21 : v2 = 7
                  · have hF := ite_t hF c21
                    refine E_tabIn (off := 91) (tgt := 107) (by rw [c21]; decide) (by rw [c21]; decide) (by rw [c21]; rfl) rfl dX7_party_16 ?_
                    refine E_aload_n (j := 3) (i := 3) (q := 0) rfl rfl dX7_party_107 ?_
                    refine gf_RX7_274 rfl h13.2 (shape_ord h13.2).1 dX7_party_108 ?_
                    exact E_iret (Or.inr ⟨rfl, rfl⟩) rfl (by cases hF; exact hr) dX7_party_111
                  · have hF := ite_f hF c21
                    by_cases c22 : v2 = 8
                    · have hF := ite_t hF c22
                      refine E_tabIn (off := 96) (tgt := 112) (by rw [c22]; decide) (by rw [c22]; decide) (by rw [c22]; rfl) rfl dX7_party_16 ?_
                      refine E_aload_n (j := 3) (i := 3) (q := 0) rfl rfl dX7_party_112 ?_
                      refine gf_RX7_277 rfl h13.2 (shape_ord h13.2).1 dX7_party_113 ?_
                      refine E_if_eq (tgt := 123) rfl dX7_party_116 (fun c23 => ?_) (fun c23 => ?_)
                      · have hF := ite_t hF c23
                        refine E_iconst (v := (0 : Int32)) rfl dX7_party_123 ?_
                        exact E_iret (Or.inr ⟨rfl, rfl⟩) rfl (by cases hF; exact hr) dX7_party_124
                      · have hF := ite_f hF c23
                        refine E_iconst (v := (1 : Int32)) rfl dX7_party_119 ?_
                        refine E_goto (tgt := 124) rfl dX7_party_120 ?_
                        exact E_iret (Or.inr ⟨rfl, rfl⟩) rfl (by cases hF; exact hr) dX7_party_124
                    · have hF := ite_f hF c22
                      by_cases c24 : v2 = 9
                      · have hF := ite_t hF c24
                        refine E_tabIn (off := 109) (tgt := 125) (by rw [c24]; decide) (by rw [c24]; decide) (by rw [c24]; rfl) rfl dX7_party_16 ?_
                        refine E_aload_n (j := 3) (i := 3) (q := 0) rfl rfl dX7_party_125 ?_
                        refine gf_RX7_280 rfl h13.2 (shape_ord h13.2).1 dX7_party_126 ?_
                        exact E_iret (Or.inr ⟨rfl, rfl⟩) rfl (by cases hF; exact hr) dX7_party_129
                      · have hF := ite_f hF c24
                        refine E_tabOut (tgt := 130) (tab_out fun z9 z1 z2 => by rcases (show z9 = 0 ∨ z9 = 1 ∨ z9 = 2 ∨ z9 = 3 ∨ z9 = 4 ∨ z9 = 5 ∨ z9 = 6 ∨ z9 = 7 ∨ z9 = 8 ∨ z9 = 9 by omega) with rfl | rfl | rfl | rfl | rfl | rfl | rfl | rfl | rfl | rfl; exact c14; exact c15; exact c16; exact c17; exact c18; exact c19; exact c20; exact c21; exact c22; exact c24) rfl dX7_party_16 ?_
                        exact E_throwW (ex := 1) (text := "there is no such number of a party") (kc := 0) (ks := 0) rfl rfl (by cases hF; exact hr) wT193 wT194 (by decide +kernel) at_RX7_64.1 at_RX7_64.2 (by decide +kernel) ⟨Nat.le_of_ble_eq_true rfl, Nat.le_of_ble_eq_true rfl⟩ (Nat.le_of_ble_eq_true rfl) dX7_party_130 dX7_party_133 dX7_party_134 dX7_party_137 dX7_party_140
set_option maxHeartbeats 4000000 in
set_option maxRecDepth 100000 in
theorem T_X7_moves {l : Launch} (hfl : l.stackTraces = false) (fl : Nat) (v0 : Nat) (s : Mem) (hv0 : shape v0 = some (.inl 9)) (ρ : Int32) (hF : F_X7_moves fl v0 s = some ρ) : MetN l X_X7_moves false NF s [.ref v0] (.inr (some (.int ρ)), NF, s) := by
  unfold F_X7_moves at hF
  obtain ⟨r, hr⟩ : ∃ r : Rs, r = (.inr (some (.int ρ)), NF, s) := ⟨_, rfl⟩
  rw [← hr]
  refine met_of_E rfl rfl (by decide +kernel) hfl rfl (Nat.le_of_ble_eq_true rfl) ?_
  show E l X_X7_moves r false NF s 0 0 0 [(0, .ref v0)] []
  refine E_aload_n (j := 0) (i := 0) (q := 0) rfl rfl dX7_moves_0 ?_
  refine gf_RX7_49 rfl hv0 (shape_ord hv0).1 dX7_moves_1 ?_
  exact E_iret (Or.inl rfl) rfl (by cases hF; exact hr) dX7_moves_4
set_option maxHeartbeats 4000000 in
set_option maxRecDepth 100000 in
theorem T_X7_moveOf {l : Launch} (hfl : l.stackTraces = false) (fl : Nat) (v0 : Nat) (v1 : Int32) (v2 : Int32) (s : Mem) (hv0 : shape v0 = some (.inl 9)) (ρ : ((Nat ⊕ Int32) × Mem)) (hF : F_X7_moveOf fl v0 v1 v2 s = some ρ) : MetX l X_X7_moveOf NF s [.ref v0, .int v1, .int v2] (rX ρ.1, NF, ρ.2) := by
  unfold F_X7_moveOf at hF
  obtain ⟨r, hr⟩ : ∃ r : Rs, r = (rX ρ.1, NF, ρ.2) := ⟨_, rfl⟩
  rw [← hr]
  refine metX_of_E rfl rfl (by decide +kernel) hfl rfl (Nat.le_of_ble_eq_true rfl) ?_
  show E l X_X7_moveOf r false NF s 1 6 0 [(0, .ref v0), (1, .int v1), (2, .int v2)] []
  refine E_iload_n (j := 1) (i := 1) (q := 1) rfl rfl dX7_moveOf_0 ?_
  refine E_iconst (v := (0 : Int32)) rfl dX7_moveOf_1 ?_
  refine E_aload_n (j := 0) (i := 0) (q := 0) rfl rfl dX7_moveOf_2 ?_
  refine gf_RX7_49 rfl hv0 (shape_ord hv0).1 dX7_moveOf_3 ?_
  refine E_iconst (v := (1 : Int32)) rfl dX7_moveOf_6 ?_
  refine E_isub dX7_moveOf_7 ?_
  obtain ⟨q1, h2, hF⟩ := bd_inv hF
  refine E_callS (na := 3) (As := [.int v1, .int (0 : Int32), .int ((gI s v0 7) - (1 : Int32))]) (S := []) (kc := 1) (ks := 6) cwS_RX7_56 ⟨Nat.le_of_ble_eq_true rfl, Nat.le_of_ble_eq_true rfl⟩ (T_X7_isWithin hfl fl _ _ _ _  _ h2) rfl rfl rfl (Nat.le_of_ble_eq_true rfl) dX7_moveOf_8 ?_
  refine E_if_ne (tgt := 25) rfl dX7_moveOf_11 (fun c3 => ?_) (fun c3 => ?_)
  · have hF := ite_f hF c3
    refine E_iload_n (j := 2) (i := 2) (q := 2) rfl rfl dX7_moveOf_25 ?_
    refine E_iconst (v := (0 : Int32)) rfl dX7_moveOf_26 ?_
    refine E_iconst (v := (2 : Int32)) rfl dX7_moveOf_27 ?_
    obtain ⟨q4, h5, hF⟩ := bd_inv hF
    refine E_callS (na := 3) (As := [.int v2, .int (0 : Int32), .int (2 : Int32)]) (S := []) (kc := 1) (ks := 6) cwS_RX7_56 ⟨Nat.le_of_ble_eq_true rfl, Nat.le_of_ble_eq_true rfl⟩ (T_X7_isWithin hfl fl _ _ _ _  _ h5) rfl rfl rfl (Nat.le_of_ble_eq_true rfl) dX7_moveOf_28 ?_
    refine E_if_ne (tgt := 45) rfl dX7_moveOf_31 (fun c6 => ?_) (fun c6 => ?_)
    · have hF := ite_f hF c6
      refine E_aload_n (j := 0) (i := 0) (q := 0) rfl rfl dX7_moveOf_45 ?_
      obtain ⟨r7, h8, hF⟩ := bd_inv hF
      have h8 := ldA_inv h8
      refine gf_RX7_52 rfl hv0 (shape_ord hv0).1 h8.1 dX7_moveOf_46 ?_
      refine E_iload_n (j := 1) (i := 1) (q := 1) rfl rfl dX7_moveOf_49 ?_
      refine E_iconst (v := (3 : Int32)) rfl dX7_moveOf_50 ?_
      refine E_imul dX7_moveOf_51 ?_
      refine E_iload_n (j := 2) (i := 2) (q := 2) rfl rfl dX7_moveOf_52 ?_
      refine E_iadd dX7_moveOf_53 ?_
      obtain ⟨h9, hF⟩ := gd_inv hF
      refine E_iald _ h8.2 (shape_ord h8.2).1 h9 dX7_moveOf_54 ?_
      exact E_iret (Or.inr ⟨rfl, rfl⟩) rfl (by cases hF; exact hr) dX7_moveOf_55
    · have hF := ite_t hF c6
      exact E_throwW (ex := 1) (text := "there is no such part of a move") (kc := 0) (ks := 0) rfl rfl (by cases hF; exact hr) wT193 wT194 (by decide +kernel) at_RX7_64.1 at_RX7_64.2 (by decide +kernel) ⟨Nat.le_of_ble_eq_true rfl, Nat.le_of_ble_eq_true rfl⟩ (Nat.le_of_ble_eq_true rfl) dX7_moveOf_34 dX7_moveOf_37 dX7_moveOf_38 dX7_moveOf_41 dX7_moveOf_44
  · have hF := ite_t hF c3
    exact E_throwNW (ex := 6) (text := "there is no such move") (kc := 0) (ks := 0) (rx := prog_24_method_4_code) (by decide +kernel) (by decide +kernel) (by decide +kernel) (by decide +kernel) rfl rfl (by cases hF; exact hr) wT276 wT277 (by decide +kernel) at_RX7_253.1 at_RX7_253.2 (by decide +kernel) ⟨Nat.le_of_ble_eq_true rfl, Nat.le_of_ble_eq_true rfl⟩ (Nat.le_of_ble_eq_true rfl) dX7_moveOf_14 dX7_moveOf_17 dX7_moveOf_18 dX7_moveOf_21 dX7_moveOf_24
set_option maxHeartbeats 4000000 in
set_option maxRecDepth 100000 in
theorem T_X7_move_39 {l : Launch} (hfl : l.stackTraces = false) (fl : Nat) {r : Rs} {ρ : ((Nat ⊕ Int32) × Mem)} (hr : r = (rX ρ.1, NF, ρ.2)) (s : Mem) (hF : B_X7_move_39 fl s = some ρ) : E l X_X7_move r false NF s 1 6 39 [] [] := by
  unfold B_X7_move_39 at hF
  exact E_throwW (ex := 2) (text := "the party can\'t be moved there") (kc := 0) (ks := 0) rfl rfl (by cases hF; exact hr) wT207 wT208 (by decide +kernel) at_RX7_74.1 at_RX7_74.2 (by decide +kernel) ⟨Nat.le_of_ble_eq_true rfl, Nat.le_of_ble_eq_true rfl⟩ (Nat.le_of_ble_eq_true rfl) dX7_move_39 dX7_move_42 dX7_move_43 dX7_move_46 dX7_move_49
set_option maxHeartbeats 4000000 in
set_option maxRecDepth 100000 in
theorem T_X7_move {l : Launch} (hfl : l.stackTraces = false) (fl : Nat) (v0 : Nat) (v1 : Int32) (v2 : Int32) (s : Mem) (hv0 : shape v0 = some (.inl 9)) (ρ : ((Nat ⊕ Int32) × Mem)) (hF : F_X7_move fl v0 v1 v2 s = some ρ) : MetX l X_X7_move NF s [.ref v0, .int v1, .int v2] (rX ρ.1, NF, ρ.2) := by
  unfold F_X7_move at hF
  obtain ⟨r, hr⟩ : ∃ r : Rs, r = (rX ρ.1, NF, ρ.2) := ⟨_, rfl⟩
  rw [← hr]
  refine metX_of_E rfl rfl (by decide +kernel) hfl rfl (Nat.le_of_ble_eq_true rfl) ?_
  show E l X_X7_move r false NF s 3 18 0 [(0, .ref v0), (1, .int v1), (2, .int v2)] []
  refine E_aload_n (j := 0) (i := 0) (q := 0) rfl rfl dX7_move_0 ?_
  refine E_iload_n (j := 1) (i := 1) (q := 1) rfl rfl dX7_move_1 ?_
  obtain ⟨q1, h2, hF⟩ := bd_inv hF
  have hM5 := T_X7_requireParty hfl fl _ _ _ hv0 _ h2
  rcases xb_inv hF with ⟨e6, h4, hF⟩ | ⟨u9, h4, hF⟩
  · rw [h4] at hM5
    exact E_callVX_t (na := 1) (As := [.int v1]) (S := []) (kc := 2) (ks := 12) (ci := 9) rfl rfl hv0 (shape_ord hv0).1 cwV_RX7_254 rfl rfl (by cases hF; exact hr) ⟨Nat.le_of_ble_eq_true rfl, Nat.le_of_ble_eq_true rfl⟩ hM5 rfl rfl (Nat.le_of_ble_eq_true rfl) dX7_move_2
  · rw [h4] at hM5
    generalize q1.2 = s3 at hF hM5
    refine E_callVX (na := 1) (As := [.int v1]) (S := []) (kc := 2) (ks := 12) (ci := 9) rfl rfl hv0 (shape_ord hv0).1 cwV_RX7_254 ⟨Nat.le_of_ble_eq_true rfl, Nat.le_of_ble_eq_true rfl⟩ hM5 rfl rfl rfl (Nat.le_of_ble_eq_true rfl) dX7_move_2 ?_
    refine E_aload_n (j := 0) (i := 0) (q := 0) rfl rfl dX7_move_5 ?_
    refine E_iload_n (j := 2) (i := 2) (q := 2) rfl rfl dX7_move_6 ?_
    obtain ⟨q7, h8, hF⟩ := bd_inv hF
    have hM11 := T_X7_requirePitch hfl fl _ _ _ hv0 _ h8
    rcases xb_inv hF with ⟨e12, h10, hF⟩ | ⟨u9, h10, hF⟩
    · rw [h10] at hM11
      exact E_callVX_t (na := 1) (As := [.int v2]) (S := []) (kc := 1) (ks := 6) (ci := 9) rfl rfl hv0 (shape_ord hv0).1 cwV_RX7_83 rfl rfl (by cases hF; exact hr) ⟨Nat.le_of_ble_eq_true rfl, Nat.le_of_ble_eq_true rfl⟩ hM11 rfl rfl (Nat.le_of_ble_eq_true rfl) dX7_move_7
    · rw [h10] at hM11
      generalize q7.2 = s9 at hF hM11
      refine E_callVX (na := 1) (As := [.int v2]) (S := []) (kc := 1) (ks := 6) (ci := 9) rfl rfl hv0 (shape_ord hv0).1 cwV_RX7_83 ⟨Nat.le_of_ble_eq_true rfl, Nat.le_of_ble_eq_true rfl⟩ hM11 rfl rfl rfl (Nat.le_of_ble_eq_true rfl) dX7_move_7 ?_
      refine E_aload_n (j := 0) (i := 0) (q := 0) rfl rfl dX7_move_10 ?_
      obtain ⟨r13, h14, hF⟩ := bd_inv hF
      have h14 := ldO_inv h14
      refine gf_RX7_20 rfl hv0 (shape_ord hv0).1 h14.1 dX7_move_11 ?_
      obtain ⟨r15, h16, hF⟩ := bd_inv hF
      have h16 := ldA_inv h16
      refine gf_RX7_257 rfl h14.2 (shape_ord h14.2).1 h16.1 dX7_move_14 ?_
      refine E_iload_n (j := 1) (i := 1) (q := 1) rfl rfl dX7_move_17 ?_
      obtain ⟨h17, hF⟩ := gd_inv hF
      obtain ⟨r18, h19, hF⟩ := bd_inv hF
      have h19 := ldO_inv h19
      refine E_aald _ ⟨Nat.le_of_ble_eq_true rfl, Nat.le_of_ble_eq_true rfl⟩ h16.2 (shape_ord h16.2).1 h17 h19.1 dX7_move_18 ?_
      refine E_astore_n (j := 3) (i := 3) (L' := [(3, .ref r18), (0, .ref v0), (1, .int v1), (2, .int v2)]) rfl (Nat.le_of_ble_eq_true rfl) rfl dX7_move_19 ?_
      refine E_aload_n (j := 0) (i := 0) (q := 1) rfl rfl dX7_move_20 ?_
      obtain ⟨r20, h21, hF⟩ := bd_inv hF
      have h21 := ldO_inv h21
      refine gf_RX7_20 rfl hv0 (shape_ord hv0).1 h21.1 dX7_move_21 ?_
      refine E_aload_n (j := 3) (i := 3) (q := 0) rfl rfl dX7_move_24 ?_
      obtain ⟨q22, h23, hF⟩ := bd_inv hF
      refine E_callV (na := 1) (As := [.ref r18]) (S := []) (kc := 1) (ks := 6) (ci := 3) rfl rfl h21.2 (shape_ord h21.2).1 cwV_RX7_289 ⟨Nat.le_of_ble_eq_true rfl, Nat.le_of_ble_eq_true rfl⟩ (T_X1_isStillToCome hfl fl _ _ _ h21.2 h19.2 _ h23) rfl rfl rfl (Nat.le_of_ble_eq_true rfl) dX7_move_25 ?_
      refine E_if_eq (tgt := 39) rfl dX7_move_28 (fun c24 => ?_) (fun c24 => ?_)
      · have hF := ite_t hF c24
        refine E_sub [] rfl ?_
        exact T_X7_move_39 hfl fl hr  _  hF
      · have hF := ite_f hF c24
        refine E_aload_n (j := 3) (i := 3) (q := 0) rfl rfl dX7_move_31 ?_
        refine gf_RX7_271 rfl h19.2 (shape_ord h19.2).1 dX7_move_32 ?_
        refine E_iload_n (j := 2) (i := 2) (q := 3) rfl rfl dX7_move_35 ?_
        refine E_icmp_ne (tgt := 50) rfl dX7_move_36 (fun c25 => ?_) (fun c25 => ?_)
        · have hF := ite_f hF c25
          refine E_aload_n (j := 0) (i := 0) (q := 1) rfl rfl dX7_move_50 ?_
          obtain ⟨r26, h27, hF⟩ := bd_inv hF
          have h27 := ldO_inv h27
          refine gf_RX7_20 rfl hv0 (shape_ord hv0).1 h27.1 dX7_move_51 ?_
          refine E_aload_n (j := 3) (i := 3) (q := 0) rfl rfl dX7_move_54 ?_
          refine E_iload_n (j := 1) (i := 1) (q := 2) rfl rfl dX7_move_55 ?_
          refine E_iload_n (j := 2) (i := 2) (q := 3) rfl rfl dX7_move_56 ?_
          obtain ⟨q28, h29, hF⟩ := bd_inv hF
          refine E_callV (na := 3) (As := [.ref r18, .int v1, .int v2]) (S := []) (kc := 1) (ks := 6) (ci := 3) rfl rfl h27.2 (shape_ord h27.2).1 cwV_RX7_295 ⟨Nat.le_of_ble_eq_true rfl, Nat.le_of_ble_eq_true rfl⟩ (T_X1_obstacleOf hfl fl _ _ _ _ _ h27.2 h19.2 _ h29) rfl rfl rfl (Nat.le_of_ble_eq_true rfl) dX7_move_57 ?_
          refine E_iconst (v := (1 : Int32)) rfl dX7_move_60 ?_
          refine E_iconst (v := (3 : Int32)) rfl dX7_move_61 ?_
          obtain ⟨q30, h31, hF⟩ := bd_inv hF
          refine E_callS (na := 3) (As := [.int q28, .int (1 : Int32), .int (3 : Int32)]) (S := []) (kc := 1) (ks := 6) cwS_RX7_56 ⟨Nat.le_of_ble_eq_true rfl, Nat.le_of_ble_eq_true rfl⟩ (T_X7_isWithin hfl fl _ _ _ _  _ h31) rfl rfl rfl (Nat.le_of_ble_eq_true rfl) dX7_move_62 ?_
          refine E_if_eq (tgt := 79) rfl dX7_move_65 (fun c32 => ?_) (fun c32 => ?_)
          · have hF := ite_t hF c32
            refine E_aload_n (j := 0) (i := 0) (q := 1) rfl rfl dX7_move_79 ?_
            obtain ⟨r33, h34, hF⟩ := bd_inv hF
            have h34 := ldO_inv h34
            refine gf_RX7_34 rfl hv0 (shape_ord hv0).1 h34.1 dX7_move_80 ?_
            refine E_aload_n (j := 0) (i := 0) (q := 1) rfl rfl dX7_move_83 ?_
            obtain ⟨r35, h36, hF⟩ := bd_inv hF
            have h36 := ldO_inv h36
            refine gf_RX7_20 rfl hv0 (shape_ord hv0).1 h36.1 dX7_move_84 ?_
            obtain ⟨q37, h38, hF⟩ := bd_inv hF
            refine E_callV (na := 1) (As := [.ref r35]) (S := []) (kc := 1) (ks := 6) (ci := 4) rfl rfl h34.2 (shape_ord h34.2).1 cwV_RX7_75 ⟨Nat.le_of_ble_eq_true rfl, Nat.le_of_ble_eq_true rfl⟩ (T_X2_keep hfl fl _ _ _ h34.2 h36.2 _ h38) rfl rfl rfl (Nat.le_of_ble_eq_true rfl) dX7_move_87 ?_
            refine E_aload_n (j := 3) (i := 3) (q := 0) rfl rfl dX7_move_90 ?_
            refine gf_RX7_271 rfl h19.2 (shape_ord h19.2).1 dX7_move_91 ?_
            refine E_istore (L' := [(4, .int (gI q37 r18 7)), (3, .ref r18), (0, .ref v0), (1, .int v1), (2, .int v2)]) (Nat.le_of_ble_eq_true rfl) rfl dX7_move_94 ?_
            refine E_aload_n (j := 3) (i := 3) (q := 1) rfl rfl dX7_move_96 ?_
            refine E_iload_n (j := 2) (i := 2) (q := 4) rfl rfl dX7_move_97 ?_
            refine pf_RX7_271 rfl h19.2 (shape_ord h19.2).1 dX7_move_98 ?_
            obtain ⟨m39, e40, hF⟩ := nx_inv hF
            refine E_mem e40 ?_
            refine E_iload (q := 0) rfl dX7_move_101 ?_
            exact E_iret (Or.inr ⟨rfl, rfl⟩) rfl (by cases hF; exact hr) dX7_move_103
          · have hF := ite_f hF c32
            exact E_throwW (ex := 5) (text := "the party has an obstacle there") (kc := 0) (ks := 0) rfl rfl (by cases hF; exact hr) wT262 wT263 (by decide +kernel) at_RX7_218.1 at_RX7_218.2 (by decide +kernel) ⟨Nat.le_of_ble_eq_true rfl, Nat.le_of_ble_eq_true rfl⟩ (Nat.le_of_ble_eq_true rfl) dX7_move_68 dX7_move_71 dX7_move_72 dX7_move_75 dX7_move_78
        · have hF := ite_t hF c25
          refine E_sub [] rfl ?_
          exact T_X7_move_39 hfl fl hr  _  hF
set_option maxHeartbeats 4000000 in
set_option maxRecDepth 100000 in
theorem T_X7_cancel {l : Launch} (hfl : l.stackTraces = false) (fl : Nat) (v0 : Nat) (v1 : Int32) (s : Mem) (hv0 : shape v0 = some (.inl 9)) (ρ : ((Nat ⊕ Int32) × Mem)) (hF : F_X7_cancel fl v0 v1 s = some ρ) : MetX l X_X7_cancel NF s [.ref v0, .int v1] (rX ρ.1, NF, ρ.2) := by
  unfold F_X7_cancel at hF
  obtain ⟨r, hr⟩ : ∃ r : Rs, r = (rX ρ.1, NF, ρ.2) := ⟨_, rfl⟩
  rw [← hr]
  refine metX_of_E rfl rfl (by decide +kernel) hfl rfl (Nat.le_of_ble_eq_true rfl) ?_
  show E l X_X7_cancel r false NF s 2 12 0 [(0, .ref v0), (1, .int v1)] []
  refine E_aload_n (j := 0) (i := 0) (q := 0) rfl rfl dX7_cancel_0 ?_
  refine E_iload_n (j := 1) (i := 1) (q := 1) rfl rfl dX7_cancel_1 ?_
  obtain ⟨q1, h2, hF⟩ := bd_inv hF
  have hM5 := T_X7_requireParty hfl fl _ _ _ hv0 _ h2
  rcases xb_inv hF with ⟨e6, h4, hF⟩ | ⟨u9, h4, hF⟩
  · rw [h4] at hM5
    exact E_callVX_t (na := 1) (As := [.int v1]) (S := []) (kc := 1) (ks := 6) (ci := 9) rfl rfl hv0 (shape_ord hv0).1 cwV_RX7_254 rfl rfl (by cases hF; exact hr) ⟨Nat.le_of_ble_eq_true rfl, Nat.le_of_ble_eq_true rfl⟩ hM5 rfl rfl (Nat.le_of_ble_eq_true rfl) dX7_cancel_2
  · rw [h4] at hM5
    generalize q1.2 = s3 at hF hM5
    refine E_callVX (na := 1) (As := [.int v1]) (S := []) (kc := 1) (ks := 6) (ci := 9) rfl rfl hv0 (shape_ord hv0).1 cwV_RX7_254 ⟨Nat.le_of_ble_eq_true rfl, Nat.le_of_ble_eq_true rfl⟩ hM5 rfl rfl rfl (Nat.le_of_ble_eq_true rfl) dX7_cancel_2 ?_
    refine E_aload_n (j := 0) (i := 0) (q := 0) rfl rfl dX7_cancel_5 ?_
    obtain ⟨r7, h8, hF⟩ := bd_inv hF
    have h8 := ldO_inv h8
    refine gf_RX7_20 rfl hv0 (shape_ord hv0).1 h8.1 dX7_cancel_6 ?_
    obtain ⟨r9, h10, hF⟩ := bd_inv hF
    have h10 := ldA_inv h10
    refine gf_RX7_257 rfl h8.2 (shape_ord h8.2).1 h10.1 dX7_cancel_9 ?_
    refine E_iload_n (j := 1) (i := 1) (q := 1) rfl rfl dX7_cancel_12 ?_
    obtain ⟨h11, hF⟩ := gd_inv hF
    obtain ⟨r12, h13, hF⟩ := bd_inv hF
    have h13 := ldO_inv h13
    refine E_aald _ ⟨Nat.le_of_ble_eq_true rfl, Nat.le_of_ble_eq_true rfl⟩ h10.2 (shape_ord h10.2).1 h11 h13.1 dX7_cancel_13 ?_
    refine E_astore_n (j := 2) (i := 2) (L' := [(2, .ref r12), (0, .ref v0), (1, .int v1)]) rfl (Nat.le_of_ble_eq_true rfl) rfl dX7_cancel_14 ?_
    refine E_aload_n (j := 0) (i := 0) (q := 1) rfl rfl dX7_cancel_15 ?_
    obtain ⟨r14, h15, hF⟩ := bd_inv hF
    have h15 := ldO_inv h15
    refine gf_RX7_20 rfl hv0 (shape_ord hv0).1 h15.1 dX7_cancel_16 ?_
    refine E_aload_n (j := 2) (i := 2) (q := 0) rfl rfl dX7_cancel_19 ?_
    obtain ⟨q16, h17, hF⟩ := bd_inv hF
    refine E_callV (na := 1) (As := [.ref r12]) (S := []) (kc := 1) (ks := 6) (ci := 3) rfl rfl h15.2 (shape_ord h15.2).1 cwV_RX7_289 ⟨Nat.le_of_ble_eq_true rfl, Nat.le_of_ble_eq_true rfl⟩ (T_X1_isStillToCome hfl fl _ _ _ h15.2 h13.2 _ h17) rfl rfl rfl (Nat.le_of_ble_eq_true rfl) dX7_cancel_20 ?_
    refine E_if_ne (tgt := 37) rfl dX7_cancel_23 (fun c18 => ?_) (fun c18 => ?_)
    · have hF := ite_f hF c18
      refine E_aload_n (j := 0) (i := 0) (q := 1) rfl rfl dX7_cancel_37 ?_
      obtain ⟨r19, h20, hF⟩ := bd_inv hF
      have h20 := ldO_inv h20
      refine gf_RX7_34 rfl hv0 (shape_ord hv0).1 h20.1 dX7_cancel_38 ?_
      refine E_aload_n (j := 0) (i := 0) (q := 1) rfl rfl dX7_cancel_41 ?_
      obtain ⟨r21, h22, hF⟩ := bd_inv hF
      have h22 := ldO_inv h22
      refine gf_RX7_20 rfl hv0 (shape_ord hv0).1 h22.1 dX7_cancel_42 ?_
      obtain ⟨q23, h24, hF⟩ := bd_inv hF
      refine E_callV (na := 1) (As := [.ref r21]) (S := []) (kc := 1) (ks := 6) (ci := 4) rfl rfl h20.2 (shape_ord h20.2).1 cwV_RX7_75 ⟨Nat.le_of_ble_eq_true rfl, Nat.le_of_ble_eq_true rfl⟩ (T_X2_keep hfl fl _ _ _ h20.2 h22.2 _ h24) rfl rfl rfl (Nat.le_of_ble_eq_true rfl) dX7_cancel_45 ?_
      refine E_aload_n (j := 2) (i := 2) (q := 0) rfl rfl dX7_cancel_48 ?_
      refine E_iconst (v := (0 : Int32)) rfl dX7_cancel_49 ?_
      refine pf_RX7_277 rfl (by decide) h13.2 (shape_ord h13.2).1 dX7_cancel_50 ?_
      obtain ⟨m25, e26, hF⟩ := nx_inv hF
      refine E_mem e26 ?_
      refine E_aload_n (j := 2) (i := 2) (q := 0) rfl rfl dX7_cancel_53 ?_
      refine E_aload_n (j := 2) (i := 2) (q := 0) rfl rfl dX7_cancel_54 ?_
      refine E_aload_n (j := 0) (i := 0) (q := 1) rfl rfl dX7_cancel_55 ?_
      obtain ⟨r27, h28, hF⟩ := bd_inv hF
      have h28 := ldO_inv h28
      refine gf_RX7_20 rfl hv0 (shape_ord hv0).1 h28.1 dX7_cancel_56 ?_
      refine gf_RX7_186 rfl h28.2 (shape_ord h28.2).1 dX7_cancel_59 ?_
      obtain ⟨q29, h30, hF⟩ := bd_inv hF
      refine E_callV (na := 1) (As := [.int (gI m25 r27 8)]) (S := [.ref r12]) (kc := 1) (ks := 6) (ci := 5) rfl rfl h13.2 (shape_ord h13.2).1 cwV_RX7_303 ⟨Nat.le_of_ble_eq_true rfl, Nat.le_of_ble_eq_true rfl⟩ (T_X3_feeAt hfl fl _ _ _ h13.2 _ h30) rfl rfl rfl (Nat.le_of_ble_eq_true rfl) dX7_cancel_62 ?_
      refine pf_RX7_280 rfl h13.2 (shape_ord h13.2).1 dX7_cancel_65 ?_
      obtain ⟨m31, e32, hF⟩ := nx_inv hF
      refine E_mem e32 ?_
      refine E_aload_n (j := 2) (i := 2) (q := 0) rfl rfl dX7_cancel_68 ?_
      refine gf_RX7_280 rfl h13.2 (shape_ord h13.2).1 dX7_cancel_69 ?_
      exact E_iret (Or.inr ⟨rfl, rfl⟩) rfl (by cases hF; exact hr) dX7_cancel_72
    · have hF := ite_t hF c18
      exact E_throwW (ex := 2) (text := "the party can\'t be cancelled") (kc := 0) (ks := 0) rfl rfl (by cases hF; exact hr) wT207 wT208 (by decide +kernel) at_RX7_74.1 at_RX7_74.2 (by decide +kernel) ⟨Nat.le_of_ble_eq_true rfl, Nat.le_of_ble_eq_true rfl⟩ (Nat.le_of_ble_eq_true rfl) dX7_cancel_26 dX7_cancel_29 dX7_cancel_30 dX7_cancel_33 dX7_cancel_36
set_option maxHeartbeats 4000000 in
set_option maxRecDepth 100000 in
theorem T_X7_advance {l : Launch} (hfl : l.stackTraces = false) (fl : Nat) (v0 : Nat) (v1 : Int32) (s : Mem) (hv0 : shape v0 = some (.inl 9)) (ρ : ((Nat ⊕ Int32) × Mem)) (hF : F_X7_advance fl v0 v1 s = some ρ) : MetX l X_X7_advance NF s [.ref v0, .int v1] (rX ρ.1, NF, ρ.2) := by
  unfold F_X7_advance at hF
  obtain ⟨r, hr⟩ : ∃ r : Rs, r = (rX ρ.1, NF, ρ.2) := ⟨_, rfl⟩
  rw [← hr]
  refine metX_of_E rfl rfl (by decide +kernel) hfl rfl (Nat.le_of_ble_eq_true rfl) ?_
  show E l X_X7_advance r false NF s 1 6 0 [(0, .ref v0), (1, .int v1)] []
  refine E_iload_n (j := 1) (i := 1) (q := 1) rfl rfl dX7_advance_0 ?_
  refine E_iconst (v := (0 : Int32)) rfl dX7_advance_1 ?_
  refine E_bipush (v := (60 : Int32)) rfl dX7_advance_2 ?_
  refine E_aload_n (j := 0) (i := 0) (q := 0) rfl rfl dX7_advance_4 ?_
  obtain ⟨r1, h2, hF⟩ := bd_inv hF
  have h2 := ldO_inv h2
  refine gf_RX7_20 rfl hv0 (shape_ord hv0).1 h2.1 dX7_advance_5 ?_
  refine gf_RX7_186 rfl h2.2 (shape_ord h2.2).1 dX7_advance_8 ?_
  refine E_isub dX7_advance_11 ?_
  obtain ⟨q3, h4, hF⟩ := bd_inv hF
  refine E_callS (na := 3) (As := [.int v1, .int (0 : Int32), .int ((60 : Int32) - (gI s r1 8))]) (S := []) (kc := 1) (ks := 6) cwS_RX7_56 ⟨Nat.le_of_ble_eq_true rfl, Nat.le_of_ble_eq_true rfl⟩ (T_X7_isWithin hfl fl _ _ _ _  _ h4) rfl rfl rfl (Nat.le_of_ble_eq_true rfl) dX7_advance_12 ?_
  refine E_if_ne (tgt := 29) rfl dX7_advance_15 (fun c5 => ?_) (fun c5 => ?_)
  · have hF := ite_f hF c5
    refine E_aload_n (j := 0) (i := 0) (q := 0) rfl rfl dX7_advance_29 ?_
    obtain ⟨r6, h7, hF⟩ := bd_inv hF
    have h7 := ldO_inv h7
    refine gf_RX7_34 rfl hv0 (shape_ord hv0).1 h7.1 dX7_advance_30 ?_
    refine E_aload_n (j := 0) (i := 0) (q := 0) rfl rfl dX7_advance_33 ?_
    obtain ⟨r8, h9, hF⟩ := bd_inv hF
    have h9 := ldO_inv h9
    refine gf_RX7_20 rfl hv0 (shape_ord hv0).1 h9.1 dX7_advance_34 ?_
    obtain ⟨q10, h11, hF⟩ := bd_inv hF
    refine E_callV (na := 1) (As := [.ref r8]) (S := []) (kc := 1) (ks := 6) (ci := 4) rfl rfl h7.2 (shape_ord h7.2).1 cwV_RX7_75 ⟨Nat.le_of_ble_eq_true rfl, Nat.le_of_ble_eq_true rfl⟩ (T_X2_keep hfl fl _ _ _ h7.2 h9.2 _ h11) rfl rfl rfl (Nat.le_of_ble_eq_true rfl) dX7_advance_37 ?_
    refine E_aload_n (j := 0) (i := 0) (q := 0) rfl rfl dX7_advance_40 ?_
    obtain ⟨r12, h13, hF⟩ := bd_inv hF
    have h13 := ldO_inv h13
    refine gf_RX7_20 rfl hv0 (shape_ord hv0).1 h13.1 dX7_advance_41 ?_
    refine gf_RX7_186 rfl h13.2 (shape_ord h13.2).1 dX7_advance_44 ?_
    refine E_istore_n (j := 2) (i := 2) (L' := [(2, .int (gI q10 r12 8)), (0, .ref v0), (1, .int v1)]) rfl (Nat.le_of_ble_eq_true rfl) rfl dX7_advance_47 ?_
    refine E_aload_n (j := 0) (i := 0) (q := 1) rfl rfl dX7_advance_48 ?_
    obtain ⟨r14, h15, hF⟩ := bd_inv hF
    have h15 := ldO_inv h15
    refine gf_RX7_20 rfl hv0 (shape_ord hv0).1 h15.1 dX7_advance_49 ?_
    refine E_iload_n (j := 2) (i := 2) (q := 0) rfl rfl dX7_advance_52 ?_
    refine E_iload_n (j := 1) (i := 1) (q := 2) rfl rfl dX7_advance_53 ?_
    refine E_iadd dX7_advance_54 ?_
    refine pf_RX7_186 rfl h15.2 (shape_ord h15.2).1 dX7_advance_55 ?_
    obtain ⟨m16, e17, hF⟩ := nx_inv hF
    refine E_mem e17 ?_
    refine E_aload_n (j := 0) (i := 0) (q := 1) rfl rfl dX7_advance_58 ?_
    obtain ⟨r18, h19, hF⟩ := bd_inv hF
    have h19 := ldO_inv h19
    refine gf_RX7_20 rfl hv0 (shape_ord hv0).1 h19.1 dX7_advance_59 ?_
    refine E_iload_n (j := 2) (i := 2) (q := 0) rfl rfl dX7_advance_62 ?_
    refine E_aload_n (j := 0) (i := 0) (q := 1) rfl rfl dX7_advance_63 ?_
    obtain ⟨r20, h21, hF⟩ := bd_inv hF
    have h21 := ldO_inv h21
    refine gf_RX7_20 rfl hv0 (shape_ord hv0).1 h21.1 dX7_advance_64 ?_
    refine gf_RX7_186 rfl h21.2 (shape_ord h21.2).1 dX7_advance_67 ?_
    obtain ⟨q22, h23, hF⟩ := bd_inv hF
    refine E_callV (na := 2) (As := [.int (gI q10 r12 8), .int (gI m16 r20 8)]) (S := []) (kc := 1) (ks := 6) (ci := 3) rfl rfl h19.2 (shape_ord h19.2).1 cwV_RX7_309 ⟨Nat.le_of_ble_eq_true rfl, Nat.le_of_ble_eq_true rfl⟩ (T_X1_countArrivals hfl fl _ _ _ _ h19.2 _ h23) rfl rfl rfl (Nat.le_of_ble_eq_true rfl) dX7_advance_70 ?_
    exact E_iret (Or.inr ⟨rfl, rfl⟩) rfl (by cases hF; exact hr) dX7_advance_73
  · have hF := ite_t hF c5
    exact E_throwW (ex := 1) (text := "so many nights can\'t go by") (kc := 0) (ks := 0) rfl rfl (by cases hF; exact hr) wT193 wT194 (by decide +kernel) at_RX7_64.1 at_RX7_64.2 (by decide +kernel) ⟨Nat.le_of_ble_eq_true rfl, Nat.le_of_ble_eq_true rfl⟩ (Nat.le_of_ble_eq_true rfl) dX7_advance_18 dX7_advance_21 dX7_advance_22 dX7_advance_25 dX7_advance_28
set_option maxHeartbeats 4000000 in
set_option maxRecDepth 100000 in
theorem T_X7_tonight {l : Launch} (hfl : l.stackTraces = false) (fl : Nat) (v0 : Nat) (s : Mem) (hv0 : shape v0 = some (.inl 9)) (ρ : Int32) (hF : F_X7_tonight fl v0 s = some ρ) : MetN l X_X7_tonight false NF s [.ref v0] (.inr (some (.int ρ)), NF, s) := by
  unfold F_X7_tonight at hF
  obtain ⟨r, hr⟩ : ∃ r : Rs, r = (.inr (some (.int ρ)), NF, s) := ⟨_, rfl⟩
  rw [← hr]
  refine met_of_E rfl rfl (by decide +kernel) hfl rfl (Nat.le_of_ble_eq_true rfl) ?_
  show E l X_X7_tonight r false NF s 0 0 0 [(0, .ref v0)] []
  refine E_aload_n (j := 0) (i := 0) (q := 0) rfl rfl dX7_tonight_0 ?_
  obtain ⟨r1, h2, hF⟩ := bd_inv hF
  have h2 := ldO_inv h2
  refine gf_RX7_20 rfl hv0 (shape_ord hv0).1 h2.1 dX7_tonight_1 ?_
  refine gf_RX7_186 rfl h2.2 (shape_ord h2.2).1 dX7_tonight_4 ?_
  exact E_iret (Or.inl rfl) rfl (by cases hF; exact hr) dX7_tonight_7
set_option maxHeartbeats 4000000 in
set_option maxRecDepth 100000 in
theorem T_X7_obstacle {l : Launch} (hfl : l.stackTraces = false) (fl : Nat) (v0 : Nat) (v1 : Int32) (v2 : Int32) (s : Mem) (hv0 : shape v0 = some (.inl 9)) (ρ : ((Nat ⊕ Int32) × Mem)) (hF : F_X7_obstacle fl v0 v1 v2 s = some ρ) : MetX l X_X7_obstacle NF s [.ref v0, .int v1, .int v2] (rX ρ.1, NF, ρ.2) := by
  unfold F_X7_obstacle at hF
  obtain ⟨r, hr⟩ : ∃ r : Rs, r = (rX ρ.1, NF, ρ.2) := ⟨_, rfl⟩
  rw [← hr]
  refine metX_of_E rfl rfl (by decide +kernel) hfl rfl (Nat.le_of_ble_eq_true rfl) ?_
  show E l X_X7_obstacle r false NF s 2 12 0 [(0, .ref v0), (1, .int v1), (2, .int v2)] []
  refine E_aload_n (j := 0) (i := 0) (q := 0) rfl rfl dX7_obstacle_0 ?_
  refine E_iload_n (j := 1) (i := 1) (q := 1) rfl rfl dX7_obstacle_1 ?_
  obtain ⟨q1, h2, hF⟩ := bd_inv hF
  have hM5 := T_X7_requireParty hfl fl _ _ _ hv0 _ h2
  rcases xb_inv hF with ⟨e6, h4, hF⟩ | ⟨u9, h4, hF⟩
  · rw [h4] at hM5
    exact E_callVX_t (na := 1) (As := [.int v1]) (S := []) (kc := 1) (ks := 6) (ci := 9) rfl rfl hv0 (shape_ord hv0).1 cwV_RX7_254 rfl rfl (by cases hF; exact hr) ⟨Nat.le_of_ble_eq_true rfl, Nat.le_of_ble_eq_true rfl⟩ hM5 rfl rfl (Nat.le_of_ble_eq_true rfl) dX7_obstacle_2
  · rw [h4] at hM5
    generalize q1.2 = s3 at hF hM5
    refine E_callVX (na := 1) (As := [.int v1]) (S := []) (kc := 1) (ks := 6) (ci := 9) rfl rfl hv0 (shape_ord hv0).1 cwV_RX7_254 ⟨Nat.le_of_ble_eq_true rfl, Nat.le_of_ble_eq_true rfl⟩ hM5 rfl rfl rfl (Nat.le_of_ble_eq_true rfl) dX7_obstacle_2 ?_
    refine E_aload_n (j := 0) (i := 0) (q := 0) rfl rfl dX7_obstacle_5 ?_
    refine E_iload_n (j := 2) (i := 2) (q := 2) rfl rfl dX7_obstacle_6 ?_
    obtain ⟨q7, h8, hF⟩ := bd_inv hF
    have hM11 := T_X7_requirePitch hfl fl _ _ _ hv0 _ h8
    rcases xb_inv hF with ⟨e12, h10, hF⟩ | ⟨u9, h10, hF⟩
    · rw [h10] at hM11
      exact E_callVX_t (na := 1) (As := [.int v2]) (S := []) (kc := 0) (ks := 0) (ci := 9) rfl rfl hv0 (shape_ord hv0).1 cwV_RX7_83 rfl rfl (by cases hF; exact hr) ⟨Nat.le_of_ble_eq_true rfl, Nat.le_of_ble_eq_true rfl⟩ hM11 rfl rfl (Nat.le_of_ble_eq_true rfl) dX7_obstacle_7
    · rw [h10] at hM11
      generalize q7.2 = s9 at hF hM11
      refine E_callVX (na := 1) (As := [.int v2]) (S := []) (kc := 0) (ks := 0) (ci := 9) rfl rfl hv0 (shape_ord hv0).1 cwV_RX7_83 ⟨Nat.le_of_ble_eq_true rfl, Nat.le_of_ble_eq_true rfl⟩ hM11 rfl rfl rfl (Nat.le_of_ble_eq_true rfl) dX7_obstacle_7 ?_
      refine E_aload_n (j := 0) (i := 0) (q := 0) rfl rfl dX7_obstacle_10 ?_
      obtain ⟨r13, h14, hF⟩ := bd_inv hF
      have h14 := ldO_inv h14
      refine gf_RX7_20 rfl hv0 (shape_ord hv0).1 h14.1 dX7_obstacle_11 ?_
      refine E_aload_n (j := 0) (i := 0) (q := 0) rfl rfl dX7_obstacle_14 ?_
      obtain ⟨r15, h16, hF⟩ := bd_inv hF
      have h16 := ldO_inv h16
      refine gf_RX7_20 rfl hv0 (shape_ord hv0).1 h16.1 dX7_obstacle_15 ?_
      obtain ⟨r17, h18, hF⟩ := bd_inv hF
      have h18 := ldA_inv h18
      refine gf_RX7_257 rfl h16.2 (shape_ord h16.2).1 h18.1 dX7_obstacle_18 ?_
      refine E_iload_n (j := 1) (i := 1) (q := 1) rfl rfl dX7_obstacle_21 ?_
      obtain ⟨h19, hF⟩ := gd_inv hF
      obtain ⟨r20, h21, hF⟩ := bd_inv hF
      have h21 := ldO_inv h21
      refine E_aald _ ⟨Nat.le_of_ble_eq_true rfl, Nat.le_of_ble_eq_true rfl⟩ h18.2 (shape_ord h18.2).1 h19 h21.1 dX7_obstacle_22 ?_
      refine E_iload_n (j := 1) (i := 1) (q := 1) rfl rfl dX7_obstacle_23 ?_
      refine E_iload_n (j := 2) (i := 2) (q := 2) rfl rfl dX7_obstacle_24 ?_
      obtain ⟨q22, h23, hF⟩ := bd_inv hF
      refine E_callV (na := 3) (As := [.ref r20, .int v1, .int v2]) (S := []) (kc := 0) (ks := 0) (ci := 3) rfl rfl h14.2 (shape_ord h14.2).1 cwV_RX7_295 ⟨Nat.le_of_ble_eq_true rfl, Nat.le_of_ble_eq_true rfl⟩ (T_X1_obstacleOf hfl fl _ _ _ _ _ h14.2 h21.2 _ h23) rfl rfl rfl (Nat.le_of_ble_eq_true rfl) dX7_obstacle_25 ?_
      exact E_iret (Or.inr ⟨rfl, rfl⟩) rfl (by cases hF; exact hr) dX7_obstacle_28
set_option maxHeartbeats 4000000 in
set_option maxRecDepth 100000 in
theorem T_X7_requireNight {l : Launch} (hfl : l.stackTraces = false) (fl : Nat) (v0 : Int32) (s : Mem) (ρ : ((Nat ⊕ Unit) × Mem)) (hF : F_X7_requireNight fl v0 s = some ρ) : MetX l X_X7_requireNight NF s [.int v0] (rXv ρ.1, NF, ρ.2) := by
  unfold F_X7_requireNight at hF
  obtain ⟨r, hr⟩ : ∃ r : Rs, r = (rXv ρ.1, NF, ρ.2) := ⟨_, rfl⟩
  rw [← hr]
  refine metX_of_E rfl rfl (by decide +kernel) hfl rfl (Nat.le_of_ble_eq_true rfl) ?_
  show E l X_X7_requireNight r false NF s 1 6 0 [(0, .int v0)] []
  refine E_iload_n (j := 0) (i := 0) (q := 0) rfl rfl dX7_requireNight_0 ?_
  obtain ⟨q1, h2, hF⟩ := bd_inv hF
  refine E_callS (na := 1) (As := [.int v0]) (S := []) (kc := 1) (ks := 6) cwS_RX7_138 ⟨Nat.le_of_ble_eq_true rfl, Nat.le_of_ble_eq_true rfl⟩ (T_X7_isNight hfl fl _ _  _ h2) rfl rfl rfl (Nat.le_of_ble_eq_true rfl) dX7_requireNight_1 ?_
  refine E_if_ne (tgt := 18) rfl dX7_requireNight_4 (fun c3 => ?_) (fun c3 => ?_)
  · have hF := ite_f hF c3
    exact E_vret (Or.inr ⟨rfl, rfl⟩) rfl (by cases hF; exact hr) dX7_requireNight_18
  · have hF := ite_t hF c3
    exact E_throwW (ex := 3) (text := "there is no such night") (kc := 0) (ks := 0) rfl rfl (by cases hF; exact hr) wT210 wT211 (by decide +kernel) at_RX7_386.1 at_RX7_386.2 (by decide +kernel) ⟨Nat.le_of_ble_eq_true rfl, Nat.le_of_ble_eq_true rfl⟩ (Nat.le_of_ble_eq_true rfl) dX7_requireNight_7 dX7_requireNight_10 dX7_requireNight_11 dX7_requireNight_14 dX7_requireNight_17
set_option maxHeartbeats 4000000 in
set_option maxRecDepth 100000 in
theorem T_X7_occupant {l : Launch} (hfl : l.stackTraces = false) (fl : Nat) (v0 : Nat) (v1 : Int32) (v2 : Int32) (s : Mem) (hv0 : shape v0 = some (.inl 9)) (ρ : ((Nat ⊕ Int32) × Mem)) (hF : F_X7_occupant fl v0 v1 v2 s = some ρ) : MetX l X_X7_occupant NF s [.ref v0, .int v1, .int v2] (rX ρ.1, NF, ρ.2) := by
  unfold F_X7_occupant at hF
  obtain ⟨r, hr⟩ : ∃ r : Rs, r = (rX ρ.1, NF, ρ.2) := ⟨_, rfl⟩
  rw [← hr]
  refine metX_of_E rfl rfl (by decide +kernel) hfl rfl (Nat.le_of_ble_eq_true rfl) ?_
  show E l X_X7_occupant r false NF s 2 12 0 [(0, .ref v0), (1, .int v1), (2, .int v2)] []
  refine E_aload_n (j := 0) (i := 0) (q := 0) rfl rfl dX7_occupant_0 ?_
  refine E_iload_n (j := 1) (i := 1) (q := 1) rfl rfl dX7_occupant_1 ?_
  obtain ⟨q1, h2, hF⟩ := bd_inv hF
  have hM5 := T_X7_requirePitch hfl fl _ _ _ hv0 _ h2
  rcases xb_inv hF with ⟨e6, h4, hF⟩ | ⟨u9, h4, hF⟩
  · rw [h4] at hM5
    exact E_callVX_t (na := 1) (As := [.int v1]) (S := []) (kc := 1) (ks := 6) (ci := 9) rfl rfl hv0 (shape_ord hv0).1 cwV_RX7_83 rfl rfl (by cases hF; exact hr) ⟨Nat.le_of_ble_eq_true rfl, Nat.le_of_ble_eq_true rfl⟩ hM5 rfl rfl (Nat.le_of_ble_eq_true rfl) dX7_occupant_2
  · rw [h4] at hM5
    generalize q1.2 = s3 at hF hM5
    refine E_callVX (na := 1) (As := [.int v1]) (S := []) (kc := 1) (ks := 6) (ci := 9) rfl rfl hv0 (shape_ord hv0).1 cwV_RX7_83 ⟨Nat.le_of_ble_eq_true rfl, Nat.le_of_ble_eq_true rfl⟩ hM5 rfl rfl rfl (Nat.le_of_ble_eq_true rfl) dX7_occupant_2 ?_
    refine E_iload_n (j := 2) (i := 2) (q := 2) rfl rfl dX7_occupant_5 ?_
    obtain ⟨q7, h8, hF⟩ := bd_inv hF
    have hM11 := T_X7_requireNight hfl fl _ _  _ h8
    rcases xb_inv hF with ⟨e12, h10, hF⟩ | ⟨u9, h10, hF⟩
    · rw [h10] at hM11
      exact E_callSX_t (na := 1) (As := [.int v2]) (S := []) (kc := 0) (ks := 0) cwS_RX7_312 rfl rfl (by cases hF; exact hr) ⟨Nat.le_of_ble_eq_true rfl, Nat.le_of_ble_eq_true rfl⟩ hM11 rfl rfl (Nat.le_of_ble_eq_true rfl) dX7_occupant_6
    · rw [h10] at hM11
      generalize q7.2 = s9 at hF hM11
      refine E_callSX (na := 1) (As := [.int v2]) (S := []) (kc := 0) (ks := 0) cwS_RX7_312 ⟨Nat.le_of_ble_eq_true rfl, Nat.le_of_ble_eq_true rfl⟩ hM11 rfl rfl rfl (Nat.le_of_ble_eq_true rfl) dX7_occupant_6 ?_
      refine E_aload_n (j := 0) (i := 0) (q := 0) rfl rfl dX7_occupant_9 ?_
      obtain ⟨r13, h14, hF⟩ := bd_inv hF
      have h14 := ldO_inv h14
      refine gf_RX7_20 rfl hv0 (shape_ord hv0).1 h14.1 dX7_occupant_10 ?_
      refine E_iload_n (j := 1) (i := 1) (q := 1) rfl rfl dX7_occupant_13 ?_
      refine E_iload_n (j := 2) (i := 2) (q := 2) rfl rfl dX7_occupant_14 ?_
      obtain ⟨q15, h16, hF⟩ := bd_inv hF
      refine E_callV (na := 2) (As := [.int v1, .int v2]) (S := []) (kc := 0) (ks := 0) (ci := 3) rfl rfl h14.2 (shape_ord h14.2).1 cwV_RX7_315 ⟨Nat.le_of_ble_eq_true rfl, Nat.le_of_ble_eq_true rfl⟩ (T_X1_partyAt hfl fl _ _ _ _ h14.2 _ h16) rfl rfl rfl (Nat.le_of_ble_eq_true rfl) dX7_occupant_15 ?_
      exact E_iret (Or.inr ⟨rfl, rfl⟩) rfl (by cases hF; exact hr) dX7_occupant_18
set_option maxHeartbeats 4000000 in
set_option maxRecDepth 100000 in
theorem T_X7_nightAt_32 {l : Launch} (hfl : l.stackTraces = false) (fl : Nat) {r : Rs} {ρ : Int32} {s : Mem} (hr : r = (.inr (some (.int ρ)), NF, s)) {k5 : Int64 → Int32 → Int32 → Int32 → Option Int32} (hk5 : ∀ (v0 : Int64) (v2 : Int32) (v3 : Int32) (v4 : Int32), k5 v0 v2 v3 v4 = some ρ → E l X_X7_nightAt r false NF s 0 0 5 [(0, .long v0), (2, .int v2), (3, .int v3), (4, .int v4)] []) (v0 : Int64) (v2 : Int32) (v3 : Int32) (v4 : Int32) (hF : B_X7_nightAt_32 k5 fl s v0 v2 v3 v4 = some ρ) : E l X_X7_nightAt r false NF s 0 0 32 [(0, .long v0), (2, .int v2), (3, .int v3), (4, .int v4)] [] := by
  unfold B_X7_nightAt_32 at hF
  refine E_iinc (q := 3) (v := (v4 + (1 : Int32))) (L' := [(4, .int (v4 + (1 : Int32))), (0, .long v0), (2, .int v2), (3, .int v3)]) rfl rfl (Nat.le_of_ble_eq_true rfl) rfl dX7_nightAt_32 ?_
  refine E_goto (tgt := 5) rfl dX7_nightAt_35 ?_
  refine E_sub [1, 2, 3, 0] rfl ?_
  exact hk5 _ _ _ _  hF
set_option maxHeartbeats 4000000 in
set_option maxRecDepth 100000 in
theorem T_X7_nightAt_5 {l : Launch} (hfl : l.stackTraces = false) (fl : Nat) {r : Rs} {ρ : Int32} {s : Mem} (hr : r = (.inr (some (.int ρ)), NF, s)) : ∀ (n : Nat) (v0 : Int64) (v2 : Int32) (v3 : Int32) (v4 : Int32), B_X7_nightAt_5 fl s n v0 v2 v3 v4 = some ρ → E l X_X7_nightAt r false NF s 0 0 5 [(0, .long v0), (2, .int v2), (3, .int v3), (4, .int v4)] [] := by
  intro n
  induction n with
  | zero =>
    intro v0 v2 v3 v4  hF
    cases hF
  | succ n ih =>
    intro v0 v2 v3 v4  hF
    refine E_iload (q := 3) rfl dX7_nightAt_5 ?_
    refine E_bipush (v := (60 : Int32)) rfl dX7_nightAt_7 ?_
    refine E_icmp_ge (tgt := 38) rfl dX7_nightAt_9 (fun c1 => ?_) (fun c1 => ?_)
    · have hF := ite_t hF c1
      refine E_bipush (v := (60 : Int32)) rfl dX7_nightAt_38 ?_
      exact E_iret (Or.inl rfl) rfl (by cases hF; exact hr) dX7_nightAt_40
    · have hF := ite_f hF c1
      refine E_lload_n (j := 0) (i := 0) (q := 0) rfl rfl dX7_nightAt_12 ?_
      refine E_iload (q := 3) rfl dX7_nightAt_13 ?_
      obtain ⟨q2, h3, hF⟩ := bd_inv hF
      refine E_callS (na := 2) (As := [.long v0, .int v4]) (S := []) (kc := 0) (ks := 0) cwS_RX7_396 ⟨Nat.le_of_ble_eq_true rfl, Nat.le_of_ble_eq_true rfl⟩ (T_X7_holds hfl fl _ _ _  _ h3) rfl rfl rfl (Nat.le_of_ble_eq_true rfl) dX7_nightAt_15 ?_
      refine E_if_eq (tgt := 32) rfl dX7_nightAt_18 (fun c4 => ?_) (fun c4 => ?_)
      · have hF := ite_t hF c4
        refine E_sub [0, 1, 2, 3] rfl ?_
        exact T_X7_nightAt_32 hfl fl hr ih _ _ _ _  hF
      · have hF := ite_f hF c4
        refine E_iload_n (j := 3) (i := 3) (q := 2) rfl rfl dX7_nightAt_21 ?_
        refine E_iload_n (j := 2) (i := 2) (q := 1) rfl rfl dX7_nightAt_22 ?_
        refine E_icmp_ne (tgt := 29) rfl dX7_nightAt_23 (fun c5 => ?_) (fun c5 => ?_)
        · have hF := ite_f hF c5
          refine E_iinc (q := 2) (v := (v3 + (1 : Int32))) (L' := [(3, .int (v3 + (1 : Int32))), (0, .long v0), (2, .int v2), (4, .int v4)]) rfl rfl (Nat.le_of_ble_eq_true rfl) rfl dX7_nightAt_29 ?_
          refine E_sub [1, 2, 0, 3] rfl ?_
          exact T_X7_nightAt_32 hfl fl hr ih _ _ _ _  hF
        · have hF := ite_t hF c5
          refine E_iload (q := 3) rfl dX7_nightAt_26 ?_
          exact E_iret (Or.inl rfl) rfl (by cases hF; exact hr) dX7_nightAt_28
set_option maxHeartbeats 4000000 in
set_option maxRecDepth 100000 in
theorem T_X7_nightAt {l : Launch} (hfl : l.stackTraces = false) (fl : Nat) (v0 : Int64) (v2 : Int32) (s : Mem) (ρ : Int32) (hF : F_X7_nightAt fl v0 v2 s = some ρ) : MetN l X_X7_nightAt false NF s [.long v0, .int v2] (.inr (some (.int ρ)), NF, s) := by
  unfold F_X7_nightAt at hF
  obtain ⟨r, hr⟩ : ∃ r : Rs, r = (.inr (some (.int ρ)), NF, s) := ⟨_, rfl⟩
  rw [← hr]
  refine met_of_E rfl rfl (by decide +kernel) hfl rfl (Nat.le_of_ble_eq_true rfl) ?_
  show E l X_X7_nightAt r false NF s 0 0 0 [(0, .long v0), (2, .int v2)] []
  refine E_iconst (v := (0 : Int32)) rfl dX7_nightAt_0 ?_
  refine E_istore_n (j := 3) (i := 3) (L' := [(3, .int (0 : Int32)), (0, .long v0), (2, .int v2)]) rfl (Nat.le_of_ble_eq_true rfl) rfl dX7_nightAt_1 ?_
  refine E_iconst (v := (0 : Int32)) rfl dX7_nightAt_2 ?_
  refine E_istore (L' := [(4, .int (0 : Int32)), (3, .int (0 : Int32)), (0, .long v0), (2, .int v2)]) (Nat.le_of_ble_eq_true rfl) rfl dX7_nightAt_3 ?_
  refine E_sub [2, 3, 1, 0] rfl ?_
  exact T_X7_nightAt_5 hfl fl hr  fl _ _ _ _  hF
set_option maxHeartbeats 4000000 in
set_option maxRecDepth 100000 in
theorem T_X7_busyNight {l : Launch} (hfl : l.stackTraces = false) (fl : Nat) (v0 : Nat) (v1 : Int32) (v2 : Int32) (s : Mem) (hv0 : shape v0 = some (.inl 9)) (ρ : ((Nat ⊕ Int32) × Mem)) (hF : F_X7_busyNight fl v0 v1 v2 s = some ρ) : MetX l X_X7_busyNight NF s [.ref v0, .int v1, .int v2] (rX ρ.1, NF, ρ.2) := by
  unfold F_X7_busyNight at hF
  obtain ⟨r, hr⟩ : ∃ r : Rs, r = (rX ρ.1, NF, ρ.2) := ⟨_, rfl⟩
  rw [← hr]
  refine metX_of_E rfl rfl (by decide +kernel) hfl rfl (Nat.le_of_ble_eq_true rfl) ?_
  show E l X_X7_busyNight r false NF s 2 12 0 [(0, .ref v0), (1, .int v1), (2, .int v2)] []
  refine E_aload_n (j := 0) (i := 0) (q := 0) rfl rfl dX7_busyNight_0 ?_
  refine E_iload_n (j := 1) (i := 1) (q := 1) rfl rfl dX7_busyNight_1 ?_
  obtain ⟨q1, h2, hF⟩ := bd_inv hF
  have hM5 := T_X7_requirePitch hfl fl _ _ _ hv0 _ h2
  rcases xb_inv hF with ⟨e6, h4, hF⟩ | ⟨u9, h4, hF⟩
  · rw [h4] at hM5
    exact E_callVX_t (na := 1) (As := [.int v1]) (S := []) (kc := 1) (ks := 6) (ci := 9) rfl rfl hv0 (shape_ord hv0).1 cwV_RX7_83 rfl rfl (by cases hF; exact hr) ⟨Nat.le_of_ble_eq_true rfl, Nat.le_of_ble_eq_true rfl⟩ hM5 rfl rfl (Nat.le_of_ble_eq_true rfl) dX7_busyNight_2
  · rw [h4] at hM5
    generalize q1.2 = s3 at hF hM5
    refine E_callVX (na := 1) (As := [.int v1]) (S := []) (kc := 1) (ks := 6) (ci := 9) rfl rfl hv0 (shape_ord hv0).1 cwV_RX7_83 ⟨Nat.le_of_ble_eq_true rfl, Nat.le_of_ble_eq_true rfl⟩ hM5 rfl rfl rfl (Nat.le_of_ble_eq_true rfl) dX7_busyNight_2 ?_
    refine E_aload_n (j := 0) (i := 0) (q := 0) rfl rfl dX7_busyNight_5 ?_
    obtain ⟨r7, h8, hF⟩ := bd_inv hF
    have h8 := ldO_inv h8
    refine gf_RX7_20 rfl hv0 (shape_ord hv0).1 h8.1 dX7_busyNight_6 ?_
    refine E_iload_n (j := 1) (i := 1) (q := 1) rfl rfl dX7_busyNight_9 ?_
    refine E_iconst (v := (-1 : Int32)) rfl dX7_busyNight_10 ?_
    obtain ⟨q9, h10, hF⟩ := bd_inv hF
    refine E_callV (na := 2) (As := [.int v1, .int (-1 : Int32)]) (S := []) (kc := 1) (ks := 6) (ci := 3) rfl rfl h8.2 (shape_ord h8.2).1 cwV_RX7_108 ⟨Nat.le_of_ble_eq_true rfl, Nat.le_of_ble_eq_true rfl⟩ (T_X1_busyNights hfl fl _ _ _ _ h8.2 _ h10) rfl rfl rfl (Nat.le_of_ble_eq_true rfl) dX7_busyNight_11 ?_
    refine E_iload_n (j := 2) (i := 2) (q := 2) rfl rfl dX7_busyNight_14 ?_
    obtain ⟨q11, h12, hF⟩ := bd_inv hF
    refine E_callS (na := 2) (As := [.long q9, .int v2]) (S := []) (kc := 1) (ks := 6) cwS_RX7_318 ⟨Nat.le_of_ble_eq_true rfl, Nat.le_of_ble_eq_true rfl⟩ (T_X7_nightAt hfl fl _ _ _  _ h12) rfl rfl rfl (Nat.le_of_ble_eq_true rfl) dX7_busyNight_15 ?_
    refine E_istore_n (j := 3) (i := 3) (L' := [(3, .int q11), (0, .ref v0), (1, .int v1), (2, .int v2)]) rfl (Nat.le_of_ble_eq_true rfl) rfl dX7_busyNight_18 ?_
    refine E_iload_n (j := 3) (i := 3) (q := 0) rfl rfl dX7_busyNight_19 ?_
    refine E_bipush (v := (60 : Int32)) rfl dX7_busyNight_20 ?_
    refine E_icmp_lt (tgt := 36) rfl dX7_busyNight_22 (fun c13 => ?_) (fun c13 => ?_)
    · have hF := ite_t hF c13
      refine E_iload_n (j := 3) (i := 3) (q := 0) rfl rfl dX7_busyNight_36 ?_
      exact E_iret (Or.inr ⟨rfl, rfl⟩) rfl (by cases hF; exact hr) dX7_busyNight_37
    · have hF := ite_f hF c13
      exact E_throwNW (ex := 6) (text := "there is no such night") (kc := 0) (ks := 0) (rx := prog_24_method_4_code) (by decide +kernel) (by decide +kernel) (by decide +kernel) (by decide +kernel) rfl rfl (by cases hF; exact hr) wT276 wT277 (by decide +kernel) at_RX7_253.1 at_RX7_253.2 (by decide +kernel) ⟨Nat.le_of_ble_eq_true rfl, Nat.le_of_ble_eq_true rfl⟩ (Nat.le_of_ble_eq_true rfl) dX7_busyNight_25 dX7_busyNight_28 dX7_busyNight_29 dX7_busyNight_32 dX7_busyNight_35
set_option maxHeartbeats 4000000 in
set_option maxRecDepth 100000 in
theorem T_X7_freeFrom_3 {l : Launch} (hfl : l.stackTraces = false) (fl : Nat) {r : Rs} {ρ : Int32} {s : Mem} (hr : r = (.inr (some (.int ρ)), NF, s)) : ∀ (n : Nat) (v0 : Int64) (v3 : Int32) (v4 : Int32), B_X7_freeFrom_3 fl s n v0 v3 v4 = some ρ → E l X_X7_freeFrom r false NF s 0 0 3 [(0, .long v0), (3, .int v3), (4, .int v4)] [] := by
  intro n
  induction n with
  | zero =>
    intro v0 v3 v4  hF
    cases hF
  | succ n ih =>
    intro v0 v3 v4  hF
    refine E_iload (q := 2) rfl dX7_freeFrom_3 ?_
    refine E_bipush (v := (60 : Int32)) rfl dX7_freeFrom_5 ?_
    refine E_iload_n (j := 3) (i := 3) (q := 1) rfl rfl dX7_freeFrom_7 ?_
    refine E_isub dX7_freeFrom_8 ?_
    refine E_icmp_gt (tgt := 34) rfl dX7_freeFrom_9 (fun c1 => ?_) (fun c1 => ?_)
    · have hF := ite_t hF c1
      refine E_bipush (v := (60 : Int32)) rfl dX7_freeFrom_34 ?_
      exact E_iret (Or.inl rfl) rfl (by cases hF; exact hr) dX7_freeFrom_36
    · have hF := ite_f hF c1
      refine E_lload_n (j := 0) (i := 0) (q := 0) rfl rfl dX7_freeFrom_12 ?_
      refine E_iload (q := 2) rfl dX7_freeFrom_13 ?_
      refine E_iload_n (j := 3) (i := 3) (q := 1) rfl rfl dX7_freeFrom_15 ?_
      obtain ⟨q2, h3, hF⟩ := bd_inv hF
      refine E_callS (na := 2) (As := [.int v4, .int v3]) (S := [.long v0]) (kc := 0) (ks := 0) cwS_RX7_400 ⟨Nat.le_of_ble_eq_true rfl, Nat.le_of_ble_eq_true rfl⟩ (T_X7_stayOf hfl fl _ _ _  _ h3) rfl rfl rfl (Nat.le_of_ble_eq_true rfl) dX7_freeFrom_16 ?_
      refine E_land dX7_freeFrom_19 ?_
      refine E_lconst (v := (0 : Int64)) rfl dX7_freeFrom_20 ?_
      refine E_lcmp dX7_freeFrom_21 ?_
      refine E_if_ne (tgt := 28) rfl dX7_freeFrom_22 (fun c4 => ?_) (fun c4 => ?_)
      · have hF := ite_f hF c4
        refine E_iinc (q := 2) (v := (v4 + (1 : Int32))) (L' := [(4, .int (v4 + (1 : Int32))), (0, .long v0), (3, .int v3)]) rfl rfl (Nat.le_of_ble_eq_true rfl) rfl dX7_freeFrom_28 ?_
        refine E_goto (tgt := 3) rfl dX7_freeFrom_31 ?_
        refine E_sub [1, 2, 0] rfl ?_
        exact ih _ _ _  hF
      · have hF := ite_t hF c4
        refine E_iload (q := 2) rfl dX7_freeFrom_25 ?_
        exact E_iret (Or.inl rfl) rfl (by cases hF; exact hr) dX7_freeFrom_27
set_option maxHeartbeats 4000000 in
set_option maxRecDepth 100000 in
theorem T_X7_freeFrom {l : Launch} (hfl : l.stackTraces = false) (fl : Nat) (v0 : Int64) (v2 : Int32) (v3 : Int32) (s : Mem) (ρ : Int32) (hF : F_X7_freeFrom fl v0 v2 v3 s = some ρ) : MetN l X_X7_freeFrom false NF s [.long v0, .int v2, .int v3] (.inr (some (.int ρ)), NF, s) := by
  unfold F_X7_freeFrom at hF
  obtain ⟨r, hr⟩ : ∃ r : Rs, r = (.inr (some (.int ρ)), NF, s) := ⟨_, rfl⟩
  rw [← hr]
  refine met_of_E rfl rfl (by decide +kernel) hfl rfl (Nat.le_of_ble_eq_true rfl) ?_
  show E l X_X7_freeFrom r false NF s 0 0 0 [(0, .long v0), (2, .int v2), (3, .int v3)] []
  refine E_iload_n (j := 2) (i := 2) (q := 1) rfl rfl dX7_freeFrom_0 ?_
  refine E_istore (L' := [(4, .int v2), (0, .long v0), (2, .int v2), (3, .int v3)]) (Nat.le_of_ble_eq_true rfl) rfl dX7_freeFrom_1 ?_
  refine E_sub [1, 3, 0] rfl ?_
  exact T_X7_freeFrom_3 hfl fl hr  fl _ _ _  hF
set_option maxHeartbeats 4000000 in
set_option maxRecDepth 100000 in
theorem T_X7_firstFree_22 {l : Launch} (hfl : l.stackTraces = false) (fl : Nat) {r : Rs} {ρ : ((Nat ⊕ Int32) × Mem)} (hr : r = (rX ρ.1, NF, ρ.2)) (s : Mem) (hF : B_X7_firstFree_22 fl s = some ρ) : E l X_X7_firstFree r false NF s 1 6 22 [] [] := by
  unfold B_X7_firstFree_22 at hF
  exact E_throwW (ex := 1) (text := "a number is out of range") (kc := 0) (ks := 0) rfl rfl (by cases hF; exact hr) wT193 wT194 (by decide +kernel) at_RX7_64.1 at_RX7_64.2 (by decide +kernel) ⟨Nat.le_of_ble_eq_true rfl, Nat.le_of_ble_eq_true rfl⟩ (Nat.le_of_ble_eq_true rfl) dX7_firstFree_22 dX7_firstFree_25 dX7_firstFree_26 dX7_firstFree_29 dX7_firstFree_32
set_option maxHeartbeats 4000000 in
set_option maxRecDepth 100000 in
theorem T_X7_firstFree {l : Launch} (hfl : l.stackTraces = false) (fl : Nat) (v0 : Nat) (v1 : Int32) (v2 : Int32) (v3 : Int32) (s : Mem) (hv0 : shape v0 = some (.inl 9)) (ρ : ((Nat ⊕ Int32) × Mem)) (hF : F_X7_firstFree fl v0 v1 v2 v3 s = some ρ) : MetX l X_X7_firstFree NF s [.ref v0, .int v1, .int v2, .int v3] (rX ρ.1, NF, ρ.2) := by
  unfold F_X7_firstFree at hF
  obtain ⟨r, hr⟩ : ∃ r : Rs, r = (rX ρ.1, NF, ρ.2) := ⟨_, rfl⟩
  rw [← hr]
  refine metX_of_E rfl rfl (by decide +kernel) hfl rfl (Nat.le_of_ble_eq_true rfl) ?_
  show E l X_X7_firstFree r false NF s 2 12 0 [(0, .ref v0), (1, .int v1), (2, .int v2), (3, .int v3)] []
  refine E_aload_n (j := 0) (i := 0) (q := 0) rfl rfl dX7_firstFree_0 ?_
  refine E_iload_n (j := 1) (i := 1) (q := 1) rfl rfl dX7_firstFree_1 ?_
  obtain ⟨q1, h2, hF⟩ := bd_inv hF
  have hM5 := T_X7_requirePitch hfl fl _ _ _ hv0 _ h2
  rcases xb_inv hF with ⟨e6, h4, hF⟩ | ⟨u9, h4, hF⟩
  · rw [h4] at hM5
    exact E_callVX_t (na := 1) (As := [.int v1]) (S := []) (kc := 1) (ks := 6) (ci := 9) rfl rfl hv0 (shape_ord hv0).1 cwV_RX7_83 rfl rfl (by cases hF; exact hr) ⟨Nat.le_of_ble_eq_true rfl, Nat.le_of_ble_eq_true rfl⟩ hM5 rfl rfl (Nat.le_of_ble_eq_true rfl) dX7_firstFree_2
  · rw [h4] at hM5
    generalize q1.2 = s3 at hF hM5
    refine E_callVX (na := 1) (As := [.int v1]) (S := []) (kc := 1) (ks := 6) (ci := 9) rfl rfl hv0 (shape_ord hv0).1 cwV_RX7_83 ⟨Nat.le_of_ble_eq_true rfl, Nat.le_of_ble_eq_true rfl⟩ hM5 rfl rfl rfl (Nat.le_of_ble_eq_true rfl) dX7_firstFree_2 ?_
    refine E_iload_n (j := 2) (i := 2) (q := 2) rfl rfl dX7_firstFree_5 ?_
    obtain ⟨q7, h8, hF⟩ := bd_inv hF
    refine E_callS (na := 1) (As := [.int v2]) (S := []) (kc := 1) (ks := 6) cwS_RX7_138 ⟨Nat.le_of_ble_eq_true rfl, Nat.le_of_ble_eq_true rfl⟩ (T_X7_isNight hfl fl _ _  _ h8) rfl rfl rfl (Nat.le_of_ble_eq_true rfl) dX7_firstFree_6 ?_
    refine E_if_eq (tgt := 22) rfl dX7_firstFree_9 (fun c9 => ?_) (fun c9 => ?_)
    · have hF := ite_t hF c9
      refine E_sub [] rfl ?_
      exact T_X7_firstFree_22 hfl fl hr  _  hF
    · have hF := ite_f hF c9
      refine E_iload_n (j := 3) (i := 3) (q := 3) rfl rfl dX7_firstFree_12 ?_
      refine E_iconst (v := (1 : Int32)) rfl dX7_firstFree_13 ?_
      refine E_bipush (v := (14 : Int32)) rfl dX7_firstFree_14 ?_
      obtain ⟨q10, h11, hF⟩ := bd_inv hF
      refine E_callS (na := 3) (As := [.int v3, .int (1 : Int32), .int (14 : Int32)]) (S := []) (kc := 1) (ks := 6) cwS_RX7_56 ⟨Nat.le_of_ble_eq_true rfl, Nat.le_of_ble_eq_true rfl⟩ (T_X7_isWithin hfl fl _ _ _ _  _ h11) rfl rfl rfl (Nat.le_of_ble_eq_true rfl) dX7_firstFree_16 ?_
      refine E_if_ne (tgt := 33) rfl dX7_firstFree_19 (fun c12 => ?_) (fun c12 => ?_)
      · have hF := ite_f hF c12
        refine E_aload_n (j := 0) (i := 0) (q := 0) rfl rfl dX7_firstFree_33 ?_
        obtain ⟨r13, h14, hF⟩ := bd_inv hF
        have h14 := ldO_inv h14
        refine gf_RX7_20 rfl hv0 (shape_ord hv0).1 h14.1 dX7_firstFree_34 ?_
        refine E_iload_n (j := 1) (i := 1) (q := 1) rfl rfl dX7_firstFree_37 ?_
        refine E_iconst (v := (-1 : Int32)) rfl dX7_firstFree_38 ?_
        obtain ⟨q15, h16, hF⟩ := bd_inv hF
        refine E_callV (na := 2) (As := [.int v1, .int (-1 : Int32)]) (S := []) (kc := 1) (ks := 6) (ci := 3) rfl rfl h14.2 (shape_ord h14.2).1 cwV_RX7_108 ⟨Nat.le_of_ble_eq_true rfl, Nat.le_of_ble_eq_true rfl⟩ (T_X1_busyNights hfl fl _ _ _ _ h14.2 _ h16) rfl rfl rfl (Nat.le_of_ble_eq_true rfl) dX7_firstFree_39 ?_
        refine E_iload_n (j := 2) (i := 2) (q := 2) rfl rfl dX7_firstFree_42 ?_
        refine E_iload_n (j := 3) (i := 3) (q := 3) rfl rfl dX7_firstFree_43 ?_
        obtain ⟨q17, h18, hF⟩ := bd_inv hF
        refine E_callS (na := 3) (As := [.long q15, .int v2, .int v3]) (S := []) (kc := 1) (ks := 6) cwS_RX7_326 ⟨Nat.le_of_ble_eq_true rfl, Nat.le_of_ble_eq_true rfl⟩ (T_X7_freeFrom hfl fl _ _ _ _  _ h18) rfl rfl rfl (Nat.le_of_ble_eq_true rfl) dX7_firstFree_44 ?_
        refine E_istore (L' := [(4, .int q17), (0, .ref v0), (1, .int v1), (2, .int v2), (3, .int v3)]) (Nat.le_of_ble_eq_true rfl) rfl dX7_firstFree_47 ?_
        refine E_iload (q := 0) rfl dX7_firstFree_49 ?_
        refine E_bipush (v := (60 : Int32)) rfl dX7_firstFree_51 ?_
        refine E_icmp_lt (tgt := 67) rfl dX7_firstFree_53 (fun c19 => ?_) (fun c19 => ?_)
        · have hF := ite_t hF c19
          refine E_iload (q := 0) rfl dX7_firstFree_67 ?_
          exact E_iret (Or.inr ⟨rfl, rfl⟩) rfl (by cases hF; exact hr) dX7_firstFree_69
        · have hF := ite_f hF c19
          exact E_throwNW (ex := 6) (text := "there is no such night") (kc := 0) (ks := 0) (rx := prog_24_method_4_code) (by decide +kernel) (by decide +kernel) (by decide +kernel) (by decide +kernel) rfl rfl (by cases hF; exact hr) wT276 wT277 (by decide +kernel) at_RX7_253.1 at_RX7_253.2 (by decide +kernel) ⟨Nat.le_of_ble_eq_true rfl, Nat.le_of_ble_eq_true rfl⟩ (Nat.le_of_ble_eq_true rfl) dX7_firstFree_56 dX7_firstFree_59 dX7_firstFree_60 dX7_firstFree_63 dX7_firstFree_66
      · have hF := ite_t hF c12
        refine E_sub [] rfl ?_
        exact T_X7_firstFree_22 hfl fl hr  _  hF
set_option maxHeartbeats 4000000 in
set_option maxRecDepth 100000 in
theorem T_X7_power {l : Launch} (hfl : l.stackTraces = false) (fl : Nat) (v0 : Nat) (v1 : Int32) (v2 : Int32) (s : Mem) (hv0 : shape v0 = some (.inl 9)) (ρ : ((Nat ⊕ Int32) × Mem)) (hF : F_X7_power fl v0 v1 v2 s = some ρ) : MetX l X_X7_power NF s [.ref v0, .int v1, .int v2] (rX ρ.1, NF, ρ.2) := by
  unfold F_X7_power at hF
  obtain ⟨r, hr⟩ : ∃ r : Rs, r = (rX ρ.1, NF, ρ.2) := ⟨_, rfl⟩
  rw [← hr]
  refine metX_of_E rfl rfl (by decide +kernel) hfl rfl (Nat.le_of_ble_eq_true rfl) ?_
  show E l X_X7_power r false NF s 2 12 0 [(0, .ref v0), (1, .int v1), (2, .int v2)] []
  refine E_iload_n (j := 1) (i := 1) (q := 1) rfl rfl dX7_power_0 ?_
  obtain ⟨q1, h2, hF⟩ := bd_inv hF
  have hM5 := T_X7_requireCircuit hfl fl _ _  _ h2
  rcases xb_inv hF with ⟨e6, h4, hF⟩ | ⟨u9, h4, hF⟩
  · rw [h4] at hM5
    exact E_callSX_t (na := 1) (As := [.int v1]) (S := []) (kc := 1) (ks := 6) cwS_RX7_123 rfl rfl (by cases hF; exact hr) ⟨Nat.le_of_ble_eq_true rfl, Nat.le_of_ble_eq_true rfl⟩ hM5 rfl rfl (Nat.le_of_ble_eq_true rfl) dX7_power_1
  · rw [h4] at hM5
    generalize q1.2 = s3 at hF hM5
    refine E_callSX (na := 1) (As := [.int v1]) (S := []) (kc := 1) (ks := 6) cwS_RX7_123 ⟨Nat.le_of_ble_eq_true rfl, Nat.le_of_ble_eq_true rfl⟩ hM5 rfl rfl rfl (Nat.le_of_ble_eq_true rfl) dX7_power_1 ?_
    refine E_iload_n (j := 2) (i := 2) (q := 2) rfl rfl dX7_power_4 ?_
    obtain ⟨q7, h8, hF⟩ := bd_inv hF
    have hM11 := T_X7_requireNight hfl fl _ _  _ h8
    rcases xb_inv hF with ⟨e12, h10, hF⟩ | ⟨u9, h10, hF⟩
    · rw [h10] at hM11
      exact E_callSX_t (na := 1) (As := [.int v2]) (S := []) (kc := 0) (ks := 0) cwS_RX7_312 rfl rfl (by cases hF; exact hr) ⟨Nat.le_of_ble_eq_true rfl, Nat.le_of_ble_eq_true rfl⟩ hM11 rfl rfl (Nat.le_of_ble_eq_true rfl) dX7_power_5
    · rw [h10] at hM11
      generalize q7.2 = s9 at hF hM11
      refine E_callSX (na := 1) (As := [.int v2]) (S := []) (kc := 0) (ks := 0) cwS_RX7_312 ⟨Nat.le_of_ble_eq_true rfl, Nat.le_of_ble_eq_true rfl⟩ hM11 rfl rfl rfl (Nat.le_of_ble_eq_true rfl) dX7_power_5 ?_
      refine E_aload_n (j := 0) (i := 0) (q := 0) rfl rfl dX7_power_8 ?_
      obtain ⟨r13, h14, hF⟩ := bd_inv hF
      have h14 := ldO_inv h14
      refine gf_RX7_20 rfl hv0 (shape_ord hv0).1 h14.1 dX7_power_9 ?_
      refine E_iload_n (j := 1) (i := 1) (q := 1) rfl rfl dX7_power_12 ?_
      refine E_iload_n (j := 2) (i := 2) (q := 2) rfl rfl dX7_power_13 ?_
      refine E_iconst (v := (-1 : Int32)) rfl dX7_power_14 ?_
      obtain ⟨q15, h16, hF⟩ := bd_inv hF
      refine E_callV (na := 3) (As := [.int v1, .int v2, .int (-1 : Int32)]) (S := []) (kc := 0) (ks := 0) (ci := 3) rfl rfl h14.2 (shape_ord h14.2).1 cwV_RX7_330 ⟨Nat.le_of_ble_eq_true rfl, Nat.le_of_ble_eq_true rfl⟩ (T_X1_powerUsed hfl fl _ _ _ _ _ h14.2 _ h16) rfl rfl rfl (Nat.le_of_ble_eq_true rfl) dX7_power_15 ?_
      exact E_iret (Or.inr ⟨rfl, rfl⟩) rfl (by cases hF; exact hr) dX7_power_18
set_option maxHeartbeats 4000000 in
set_option maxRecDepth 100000 in
theorem T_X7_peak_44 {l : Launch} (hfl : l.stackTraces = false) (fl : Nat) {r : Rs} {ρ : ((Nat ⊕ Int32) × Mem)} (hr : r = (rX ρ.1, NF, ρ.2)) {k12 : Nat → Int32 → Int32 → Int32 → Int32 → Mem → Option ((Nat ⊕ Int32) × Mem)} (hk12 : ∀ (v0 : Nat) (v1 : Int32) (v2 : Int32) (v3 : Int32) (v4 : Int32) (s : Mem) (hv0 : shape v0 = some (.inl 9)), k12 v0 v1 v2 v3 v4 s = some ρ → E l X_X7_peak r false NF s 1 6 12 [(0, .ref v0), (1, .int v1), (2, .int v2), (3, .int v3), (4, .int v4)] []) (v0 : Nat) (v1 : Int32) (v2 : Int32) (v3 : Int32) (v4 : Int32) (s : Mem) (hv0 : shape v0 = some (.inl 9)) (hF : B_X7_peak_44 k12 fl v0 v1 v2 v3 v4 s = some ρ) : E l X_X7_peak r false NF s 1 6 44 [(0, .ref v0), (1, .int v1), (2, .int v2), (3, .int v3), (4, .int v4)] [] := by
  unfold B_X7_peak_44 at hF
  refine E_iinc (q := 4) (v := (v4 + (1 : Int32))) (L' := [(4, .int (v4 + (1 : Int32))), (0, .ref v0), (1, .int v1), (2, .int v2), (3, .int v3)]) rfl rfl (Nat.le_of_ble_eq_true rfl) rfl dX7_peak_44 ?_
  refine E_goto (tgt := 12) rfl dX7_peak_47 ?_
  refine E_sub [1, 2, 3, 4, 0] rfl ?_
  exact hk12 _ _ _ _ _ _ hv0 hF
set_option maxHeartbeats 4000000 in
set_option maxRecDepth 100000 in
theorem T_X7_peak_12 {l : Launch} (hfl : l.stackTraces = false) (fl : Nat) {r : Rs} {ρ : ((Nat ⊕ Int32) × Mem)} (hr : r = (rX ρ.1, NF, ρ.2)) : ∀ (n : Nat) (v0 : Nat) (v1 : Int32) (v2 : Int32) (v3 : Int32) (v4 : Int32) (s : Mem) (hv0 : shape v0 = some (.inl 9)), B_X7_peak_12 fl n v0 v1 v2 v3 v4 s = some ρ → E l X_X7_peak r false NF s 1 6 12 [(0, .ref v0), (1, .int v1), (2, .int v2), (3, .int v3), (4, .int v4)] [] := by
  intro n
  induction n with
  | zero =>
    intro v0 v1 v2 v3 v4 s hv0 hF
    cases hF
  | succ n ih =>
    intro v0 v1 v2 v3 v4 s hv0 hF
    refine E_iload (q := 4) rfl dX7_peak_12 ?_
    refine E_bipush (v := (60 : Int32)) rfl dX7_peak_14 ?_
    refine E_icmp_ge (tgt := 50) rfl dX7_peak_16 (fun c1 => ?_) (fun c1 => ?_)
    · have hF := ite_t hF c1
      refine E_iload_n (j := 2) (i := 2) (q := 2) rfl rfl dX7_peak_50 ?_
      refine E_bipush (v := (60 : Int32)) rfl dX7_peak_51 ?_
      refine E_icmp_lt (tgt := 67) rfl dX7_peak_53 (fun c2 => ?_) (fun c2 => ?_)
      · have hF := ite_t hF c2
        refine E_iload_n (j := 2) (i := 2) (q := 2) rfl rfl dX7_peak_67 ?_
        exact E_iret (Or.inr ⟨rfl, rfl⟩) rfl (by cases hF; exact hr) dX7_peak_68
      · have hF := ite_f hF c2
        exact E_throwNW (ex := 6) (text := "no power is used") (kc := 0) (ks := 0) (rx := prog_24_method_4_code) (by decide +kernel) (by decide +kernel) (by decide +kernel) (by decide +kernel) rfl rfl (by cases hF; exact hr) wT276 wT277 (by decide +kernel) at_RX7_253.1 at_RX7_253.2 (by decide +kernel) ⟨Nat.le_of_ble_eq_true rfl, Nat.le_of_ble_eq_true rfl⟩ (Nat.le_of_ble_eq_true rfl) dX7_peak_56 dX7_peak_59 dX7_peak_60 dX7_peak_63 dX7_peak_66
    · have hF := ite_f hF c1
      refine E_aload_n (j := 0) (i := 0) (q := 0) rfl rfl dX7_peak_19 ?_
      obtain ⟨r3, h4, hF⟩ := bd_inv hF
      have h4 := ldO_inv h4
      refine gf_RX7_20 rfl hv0 (shape_ord hv0).1 h4.1 dX7_peak_20 ?_
      refine E_iload_n (j := 1) (i := 1) (q := 1) rfl rfl dX7_peak_23 ?_
      refine E_iload (q := 4) rfl dX7_peak_24 ?_
      refine E_iconst (v := (-1 : Int32)) rfl dX7_peak_26 ?_
      obtain ⟨q5, h6, hF⟩ := bd_inv hF
      refine E_callV (na := 3) (As := [.int v1, .int v4, .int (-1 : Int32)]) (S := []) (kc := 1) (ks := 6) (ci := 3) rfl rfl h4.2 (shape_ord h4.2).1 cwV_RX7_330 ⟨Nat.le_of_ble_eq_true rfl, Nat.le_of_ble_eq_true rfl⟩ (T_X1_powerUsed hfl fl _ _ _ _ _ h4.2 _ h6) rfl rfl rfl (Nat.le_of_ble_eq_true rfl) dX7_peak_27 ?_
      refine E_istore (L' := [(5, .int q5), (0, .ref v0), (1, .int v1), (2, .int v2), (3, .int v3), (4, .int v4)]) (Nat.le_of_ble_eq_true rfl) rfl dX7_peak_30 ?_
      refine E_iload (q := 0) rfl dX7_peak_32 ?_
      refine E_iload_n (j := 3) (i := 3) (q := 4) rfl rfl dX7_peak_34 ?_
      refine E_icmp_le (tgt := 44) rfl dX7_peak_35 (fun c7 => ?_) (fun c7 => ?_)
      · have hF := ite_t hF c7
        refine E_sub [1, 2, 3, 4, 5] rfl ?_
        exact T_X7_peak_44 hfl fl hr ih _ _ _ _ _ _ hv0 hF
      · have hF := ite_f hF c7
        refine E_iload (q := 0) rfl dX7_peak_38 ?_
        refine E_istore_n (j := 3) (i := 3) (L' := [(3, .int q5), (5, .int q5), (0, .ref v0), (1, .int v1), (2, .int v2), (4, .int v4)]) rfl (Nat.le_of_ble_eq_true rfl) rfl dX7_peak_40 ?_
        refine E_iload (q := 5) rfl dX7_peak_41 ?_
        refine E_istore_n (j := 2) (i := 2) (L' := [(2, .int v4), (3, .int q5), (5, .int q5), (0, .ref v0), (1, .int v1), (4, .int v4)]) rfl (Nat.le_of_ble_eq_true rfl) rfl dX7_peak_43 ?_
        refine E_sub [3, 4, 0, 1, 5] rfl ?_
        exact T_X7_peak_44 hfl fl hr ih _ _ _ _ _ _ hv0 hF
set_option maxHeartbeats 4000000 in
set_option maxRecDepth 100000 in
theorem T_X7_peak {l : Launch} (hfl : l.stackTraces = false) (fl : Nat) (v0 : Nat) (v1 : Int32) (s : Mem) (hv0 : shape v0 = some (.inl 9)) (ρ : ((Nat ⊕ Int32) × Mem)) (hF : F_X7_peak fl v0 v1 s = some ρ) : MetX l X_X7_peak NF s [.ref v0, .int v1] (rX ρ.1, NF, ρ.2) := by
  unfold F_X7_peak at hF
  obtain ⟨r, hr⟩ : ∃ r : Rs, r = (rX ρ.1, NF, ρ.2) := ⟨_, rfl⟩
  rw [← hr]
  refine metX_of_E rfl rfl (by decide +kernel) hfl rfl (Nat.le_of_ble_eq_true rfl) ?_
  show E l X_X7_peak r false NF s 2 12 0 [(0, .ref v0), (1, .int v1)] []
  refine E_iload_n (j := 1) (i := 1) (q := 1) rfl rfl dX7_peak_0 ?_
  obtain ⟨q8, h9, hF⟩ := bd_inv hF
  have hM12 := T_X7_requireCircuit hfl fl _ _  _ h9
  rcases xb_inv hF with ⟨e13, h11, hF⟩ | ⟨u9, h11, hF⟩
  · rw [h11] at hM12
    exact E_callSX_t (na := 1) (As := [.int v1]) (S := []) (kc := 1) (ks := 6) cwS_RX7_123 rfl rfl (by cases hF; exact hr) ⟨Nat.le_of_ble_eq_true rfl, Nat.le_of_ble_eq_true rfl⟩ hM12 rfl rfl (Nat.le_of_ble_eq_true rfl) dX7_peak_1
  · rw [h11] at hM12
    generalize q8.2 = s10 at hF hM12
    refine E_callSX (na := 1) (As := [.int v1]) (S := []) (kc := 1) (ks := 6) cwS_RX7_123 ⟨Nat.le_of_ble_eq_true rfl, Nat.le_of_ble_eq_true rfl⟩ hM12 rfl rfl rfl (Nat.le_of_ble_eq_true rfl) dX7_peak_1 ?_
    refine E_bipush (v := (60 : Int32)) rfl dX7_peak_4 ?_
    refine E_istore_n (j := 2) (i := 2) (L' := [(2, .int (60 : Int32)), (0, .ref v0), (1, .int v1)]) rfl (Nat.le_of_ble_eq_true rfl) rfl dX7_peak_6 ?_
    refine E_iconst (v := (0 : Int32)) rfl dX7_peak_7 ?_
    refine E_istore_n (j := 3) (i := 3) (L' := [(3, .int (0 : Int32)), (2, .int (60 : Int32)), (0, .ref v0), (1, .int v1)]) rfl (Nat.le_of_ble_eq_true rfl) rfl dX7_peak_8 ?_
    refine E_iconst (v := (0 : Int32)) rfl dX7_peak_9 ?_
    refine E_istore (L' := [(4, .int (0 : Int32)), (3, .int (0 : Int32)), (2, .int (60 : Int32)), (0, .ref v0), (1, .int v1)]) (Nat.le_of_ble_eq_true rfl) rfl dX7_peak_10 ?_
    refine E_sub [3, 4, 2, 1, 0] rfl ?_
    exact T_X7_peak_12 hfl fl hr  fl _ _ _ _ _ _ hv0 hF
set_option maxHeartbeats 4000000 in
set_option maxRecDepth 100000 in
theorem T_X7_nextBusy_2 {l : Launch} (hfl : l.stackTraces = false) (fl : Nat) {r : Rs} {ρ : Int32} {s : Mem} (hr : r = (.inr (some (.int ρ)), NF, s)) : ∀ (n : Nat) (v0 : Int64) (v3 : Int32), B_X7_nextBusy_2 fl s n v0 v3 = some ρ → E l X_X7_nextBusy r false NF s 0 0 2 [(0, .long v0), (3, .int v3)] [] := by
  intro n
  induction n with
  | zero =>
    intro v0 v3  hF
    cases hF
  | succ n ih =>
    intro v0 v3  hF
    refine E_iload_n (j := 3) (i := 3) (q := 1) rfl rfl dX7_nextBusy_2 ?_
    refine E_bipush (v := (60 : Int32)) rfl dX7_nextBusy_3 ?_
    refine E_icmp_ge (tgt := 22) rfl dX7_nextBusy_5 (fun c1 => ?_) (fun c1 => ?_)
    · have hF := ite_t hF c1
      refine E_iload_n (j := 3) (i := 3) (q := 1) rfl rfl dX7_nextBusy_22 ?_
      exact E_iret (Or.inl rfl) rfl (by cases hF; exact hr) dX7_nextBusy_23
    · have hF := ite_f hF c1
      refine E_lload_n (j := 0) (i := 0) (q := 0) rfl rfl dX7_nextBusy_8 ?_
      refine E_iload_n (j := 3) (i := 3) (q := 1) rfl rfl dX7_nextBusy_9 ?_
      obtain ⟨q2, h3, hF⟩ := bd_inv hF
      refine E_callS (na := 2) (As := [.long v0, .int v3]) (S := []) (kc := 0) (ks := 0) cwS_RX7_396 ⟨Nat.le_of_ble_eq_true rfl, Nat.le_of_ble_eq_true rfl⟩ (T_X7_holds hfl fl _ _ _  _ h3) rfl rfl rfl (Nat.le_of_ble_eq_true rfl) dX7_nextBusy_10 ?_
      refine E_if_ne (tgt := 22) rfl dX7_nextBusy_13 (fun c4 => ?_) (fun c4 => ?_)
      · have hF := ite_f hF c4
        refine E_iload_n (j := 3) (i := 3) (q := 1) rfl rfl dX7_nextBusy_22 ?_
        exact E_iret (Or.inl rfl) rfl (by cases hF; exact hr) dX7_nextBusy_23
      · have hF := ite_t hF c4
        refine E_iinc (q := 1) (v := (v3 + (1 : Int32))) (L' := [(3, .int (v3 + (1 : Int32))), (0, .long v0)]) rfl rfl (Nat.le_of_ble_eq_true rfl) rfl dX7_nextBusy_16 ?_
        refine E_goto (tgt := 2) rfl dX7_nextBusy_19 ?_
        refine E_sub [1, 0] rfl ?_
        exact ih _ _  hF
set_option maxHeartbeats 4000000 in
set_option maxRecDepth 100000 in
theorem T_X7_nextBusy {l : Launch} (hfl : l.stackTraces = false) (fl : Nat) (v0 : Int64) (v2 : Int32) (s : Mem) (ρ : Int32) (hF : F_X7_nextBusy fl v0 v2 s = some ρ) : MetN l X_X7_nextBusy false NF s [.long v0, .int v2] (.inr (some (.int ρ)), NF, s) := by
  unfold F_X7_nextBusy at hF
  obtain ⟨r, hr⟩ : ∃ r : Rs, r = (.inr (some (.int ρ)), NF, s) := ⟨_, rfl⟩
  rw [← hr]
  refine met_of_E rfl rfl (by decide +kernel) hfl rfl (Nat.le_of_ble_eq_true rfl) ?_
  show E l X_X7_nextBusy r false NF s 0 0 0 [(0, .long v0), (2, .int v2)] []
  refine E_iload_n (j := 2) (i := 2) (q := 1) rfl rfl dX7_nextBusy_0 ?_
  refine E_istore_n (j := 3) (i := 3) (L' := [(3, .int v2), (0, .long v0), (2, .int v2)]) rfl (Nat.le_of_ble_eq_true rfl) rfl dX7_nextBusy_1 ?_
  refine E_sub [1, 0] rfl ?_
  exact T_X7_nextBusy_2 hfl fl hr  fl _ _  hF
set_option maxHeartbeats 4000000 in
set_option maxRecDepth 100000 in
theorem T_X7_gap {l : Launch} (hfl : l.stackTraces = false) (fl : Nat) (v0 : Nat) (v1 : Int32) (v2 : Int32) (v3 : Int32) (s : Mem) (hv0 : shape v0 = some (.inl 9)) (ρ : ((Nat ⊕ Int32) × Mem)) (hF : F_X7_gap fl v0 v1 v2 v3 s = some ρ) : MetX l X_X7_gap NF s [.ref v0, .int v1, .int v2, .int v3] (rX ρ.1, NF, ρ.2) := by
  unfold F_X7_gap at hF
  obtain ⟨r, hr⟩ : ∃ r : Rs, r = (rX ρ.1, NF, ρ.2) := ⟨_, rfl⟩
  rw [← hr]
  refine metX_of_E rfl rfl (by decide +kernel) hfl rfl (Nat.le_of_ble_eq_true rfl) ?_
  show E l X_X7_gap r false NF s 2 12 0 [(0, .ref v0), (1, .int v1), (2, .int v2), (3, .int v3)] []
  refine E_aload_n (j := 0) (i := 0) (q := 0) rfl rfl dX7_gap_0 ?_
  refine E_iload_n (j := 1) (i := 1) (q := 1) rfl rfl dX7_gap_1 ?_
  obtain ⟨q1, h2, hF⟩ := bd_inv hF
  have hM5 := T_X7_requirePitch hfl fl _ _ _ hv0 _ h2
  rcases xb_inv hF with ⟨e6, h4, hF⟩ | ⟨u9, h4, hF⟩
  · rw [h4] at hM5
    exact E_callVX_t (na := 1) (As := [.int v1]) (S := []) (kc := 1) (ks := 6) (ci := 9) rfl rfl hv0 (shape_ord hv0).1 cwV_RX7_83 rfl rfl (by cases hF; exact hr) ⟨Nat.le_of_ble_eq_true rfl, Nat.le_of_ble_eq_true rfl⟩ hM5 rfl rfl (Nat.le_of_ble_eq_true rfl) dX7_gap_2
  · rw [h4] at hM5
    generalize q1.2 = s3 at hF hM5
    refine E_callVX (na := 1) (As := [.int v1]) (S := []) (kc := 1) (ks := 6) (ci := 9) rfl rfl hv0 (shape_ord hv0).1 cwV_RX7_83 ⟨Nat.le_of_ble_eq_true rfl, Nat.le_of_ble_eq_true rfl⟩ hM5 rfl rfl rfl (Nat.le_of_ble_eq_true rfl) dX7_gap_2 ?_
    refine E_aload_n (j := 0) (i := 0) (q := 0) rfl rfl dX7_gap_5 ?_
    obtain ⟨r7, h8, hF⟩ := bd_inv hF
    have h8 := ldO_inv h8
    refine gf_RX7_20 rfl hv0 (shape_ord hv0).1 h8.1 dX7_gap_6 ?_
    refine E_iload_n (j := 1) (i := 1) (q := 1) rfl rfl dX7_gap_9 ?_
    refine E_iconst (v := (-1 : Int32)) rfl dX7_gap_10 ?_
    obtain ⟨q9, h10, hF⟩ := bd_inv hF
    refine E_callV (na := 2) (As := [.int v1, .int (-1 : Int32)]) (S := []) (kc := 1) (ks := 6) (ci := 3) rfl rfl h8.2 (shape_ord h8.2).1 cwV_RX7_108 ⟨Nat.le_of_ble_eq_true rfl, Nat.le_of_ble_eq_true rfl⟩ (T_X1_busyNights hfl fl _ _ _ _ h8.2 _ h10) rfl rfl rfl (Nat.le_of_ble_eq_true rfl) dX7_gap_11 ?_
    refine E_lstore (L' := [(4, .long q9), (0, .ref v0), (1, .int v1), (2, .int v2), (3, .int v3)]) (Nat.le_of_ble_eq_true rfl) rfl dX7_gap_14 ?_
    refine E_aload_n (j := 0) (i := 0) (q := 1) rfl rfl dX7_gap_16 ?_
    obtain ⟨r11, h12, hF⟩ := bd_inv hF
    have h12 := ldO_inv h12
    refine gf_RX7_20 rfl hv0 (shape_ord hv0).1 h12.1 dX7_gap_17 ?_
    refine E_lload (q := 0) rfl dX7_gap_20 ?_
    obtain ⟨q13, h14, hF⟩ := bd_inv hF
    refine E_callV (na := 1) (As := [.long q9]) (S := []) (kc := 1) (ks := 6) (ci := 3) rfl rfl h12.2 (shape_ord h12.2).1 cwV_RX7_335 ⟨Nat.le_of_ble_eq_true rfl, Nat.le_of_ble_eq_true rfl⟩ (T_X1_gapEdges hfl fl _ _ _ h12.2 _ h14) rfl rfl rfl (Nat.le_of_ble_eq_true rfl) dX7_gap_22 ?_
    refine E_iload_n (j := 2) (i := 2) (q := 3) rfl rfl dX7_gap_25 ?_
    obtain ⟨q15, h16, hF⟩ := bd_inv hF
    refine E_callS (na := 2) (As := [.long q13, .int v2]) (S := []) (kc := 1) (ks := 6) cwS_RX7_318 ⟨Nat.le_of_ble_eq_true rfl, Nat.le_of_ble_eq_true rfl⟩ (T_X7_nightAt hfl fl _ _ _  _ h16) rfl rfl rfl (Nat.le_of_ble_eq_true rfl) dX7_gap_26 ?_
    refine E_istore (L' := [(6, .int q15), (4, .long q9), (0, .ref v0), (1, .int v1), (2, .int v2), (3, .int v3)]) (Nat.le_of_ble_eq_true rfl) rfl dX7_gap_29 ?_
    refine E_iload (q := 0) rfl dX7_gap_31 ?_
    refine E_bipush (v := (60 : Int32)) rfl dX7_gap_33 ?_
    refine E_icmp_lt (tgt := 49) rfl dX7_gap_35 (fun c17 => ?_) (fun c17 => ?_)
    · have hF := ite_t hF c17
      refine E_iload_n (j := 3) (i := 3) (q := 5) rfl rfl dX7_gap_49 ?_
      refine E_if_eq (tgt := 67) rfl dX7_gap_50 (fun c18 => ?_) (fun c18 => ?_)
      · have hF := ite_t hF c18
        refine E_iload (q := 0) rfl dX7_gap_67 ?_
        refine E_iconst (v := (1 : Int32)) rfl dX7_gap_69 ?_
        refine E_iadd dX7_gap_70 ?_
        exact E_iret (Or.inr ⟨rfl, rfl⟩) rfl (by cases hF; exact hr) dX7_gap_71
      · have hF := ite_f hF c18
        refine E_lload (q := 1) rfl dX7_gap_53 ?_
        refine E_iload (q := 0) rfl dX7_gap_55 ?_
        refine E_iconst (v := (1 : Int32)) rfl dX7_gap_57 ?_
        refine E_iadd dX7_gap_58 ?_
        obtain ⟨q19, h20, hF⟩ := bd_inv hF
        refine E_callS (na := 2) (As := [.long q9, .int (q15 + (1 : Int32))]) (S := []) (kc := 1) (ks := 6) cwS_RX7_341 ⟨Nat.le_of_ble_eq_true rfl, Nat.le_of_ble_eq_true rfl⟩ (T_X7_nextBusy hfl fl _ _ _  _ h20) rfl rfl rfl (Nat.le_of_ble_eq_true rfl) dX7_gap_59 ?_
        refine E_iconst (v := (1 : Int32)) rfl dX7_gap_62 ?_
        refine E_isub dX7_gap_63 ?_
        refine E_goto (tgt := 71) rfl dX7_gap_64 ?_
        exact E_iret (Or.inr ⟨rfl, rfl⟩) rfl (by cases hF; exact hr) dX7_gap_71
    · have hF := ite_f hF c17
      exact E_throwNW (ex := 6) (text := "there is no such gap") (kc := 0) (ks := 0) (rx := prog_24_method_4_code) (by decide +kernel) (by decide +kernel) (by decide +kernel) (by decide +kernel) rfl rfl (by cases hF; exact hr) wT276 wT277 (by decide +kernel) at_RX7_253.1 at_RX7_253.2 (by decide +kernel) ⟨Nat.le_of_ble_eq_true rfl, Nat.le_of_ble_eq_true rfl⟩ (Nat.le_of_ble_eq_true rfl) dX7_gap_38 dX7_gap_41 dX7_gap_42 dX7_gap_45 dX7_gap_48
set_option maxHeartbeats 4000000 in
set_option maxRecDepth 100000 in
theorem T_X7_account {l : Launch} (hfl : l.stackTraces = false) (fl : Nat) (v0 : Nat) (v1 : Int32) (s : Mem) (hv0 : shape v0 = some (.inl 9)) (ρ : ((Nat ⊕ Int32) × Mem)) (hF : F_X7_account fl v0 v1 s = some ρ) : MetX l X_X7_account NF s [.ref v0, .int v1] (rX ρ.1, NF, ρ.2) := by
  unfold F_X7_account at hF
  obtain ⟨r, hr⟩ : ∃ r : Rs, r = (rX ρ.1, NF, ρ.2) := ⟨_, rfl⟩
  rw [← hr]
  refine metX_of_E rfl rfl (by decide +kernel) hfl rfl (Nat.le_of_ble_eq_true rfl) ?_
  show E l X_X7_account r false NF s 1 6 0 [(0, .ref v0), (1, .int v1)] []
  refine E_iload_n (j := 1) (i := 1) (q := 1) rfl rfl dX7_account_0 ?_
  by_cases c1 : v1 = 0
  · have hF := ite_t hF c1
    refine E_tabIn (off := 47) (tgt := 48) (by rw [c1]; decide) (by rw [c1]; decide) (by rw [c1]; rfl) rfl dX7_account_1 ?_
    refine E_aload_n (j := 0) (i := 0) (q := 0) rfl rfl dX7_account_48 ?_
    obtain ⟨r2, h3, hF⟩ := bd_inv hF
    have h3 := ldO_inv h3
    refine gf_RX7_20 rfl hv0 (shape_ord hv0).1 h3.1 dX7_account_49 ?_
    refine gf_RX7_67 rfl h3.2 (shape_ord h3.2).1 dX7_account_52 ?_
    exact E_iret (Or.inr ⟨rfl, rfl⟩) rfl (by cases hF; exact hr) dX7_account_55
  · have hF := ite_f hF c1
    by_cases c4 : v1 = 1
    · have hF := ite_t hF c4
      refine E_tabIn (off := 55) (tgt := 56) (by rw [c4]; decide) (by rw [c4]; decide) (by rw [c4]; rfl) rfl dX7_account_1 ?_
      refine E_aload_n (j := 0) (i := 0) (q := 0) rfl rfl dX7_account_56 ?_
      obtain ⟨r5, h6, hF⟩ := bd_inv hF
      have h6 := ldO_inv h6
      refine gf_RX7_20 rfl hv0 (shape_ord hv0).1 h6.1 dX7_account_57 ?_
      obtain ⟨q7, h8, hF⟩ := bd_inv hF
      refine E_callV (na := 0) (As := []) (S := []) (kc := 1) (ks := 6) (ci := 3) rfl rfl h6.2 (shape_ord h6.2).1 cwV_RX7_344 ⟨Nat.le_of_ble_eq_true rfl, Nat.le_of_ble_eq_true rfl⟩ (T_X1_countBooked hfl fl _ _ h6.2 _ h8) rfl rfl rfl (Nat.le_of_ble_eq_true rfl) dX7_account_60 ?_
      exact E_iret (Or.inr ⟨rfl, rfl⟩) rfl (by cases hF; exact hr) dX7_account_63
    · have hF := ite_f hF c4
      by_cases c9 : v1 = 2
      · have hF := ite_t hF c9
        refine E_tabIn (off := 63) (tgt := 64) (by rw [c9]; decide) (by rw [c9]; decide) (by rw [c9]; rfl) rfl dX7_account_1 ?_
        refine E_aload_n (j := 0) (i := 0) (q := 0) rfl rfl dX7_account_64 ?_
        obtain ⟨r10, h11, hF⟩ := bd_inv hF
        have h11 := ldO_inv h11
        refine gf_RX7_20 rfl hv0 (shape_ord hv0).1 h11.1 dX7_account_65 ?_
        refine gf_RX7_191 rfl h11.2 (shape_ord h11.2).1 dX7_account_68 ?_
        refine E_aload_n (j := 0) (i := 0) (q := 0) rfl rfl dX7_account_71 ?_
        obtain ⟨r12, h13, hF⟩ := bd_inv hF
        have h13 := ldO_inv h13
        refine gf_RX7_20 rfl hv0 (shape_ord hv0).1 h13.1 dX7_account_72 ?_
        obtain ⟨q14, h15, hF⟩ := bd_inv hF
        refine E_callV (na := 0) (As := []) (S := [.int (gI s r10 3)]) (kc := 1) (ks := 6) (ci := 3) rfl rfl h13.2 (shape_ord h13.2).1 cwV_RX7_344 ⟨Nat.le_of_ble_eq_true rfl, Nat.le_of_ble_eq_true rfl⟩ (T_X1_countBooked hfl fl _ _ h13.2 _ h15) rfl rfl rfl (Nat.le_of_ble_eq_true rfl) dX7_account_75 ?_
        refine E_isub dX7_account_78 ?_
        exact E_iret (Or.inr ⟨rfl, rfl⟩) rfl (by cases hF; exact hr) dX7_account_79
      · have hF := ite_f hF c9
        by_cases c16 : v1 = 3
        · have hF := ite_t hF c16
          refine E_tabIn (off := 79) (tgt := 80) (by rw [c16]; decide) (by rw [c16]; decide) (by rw [c16]; rfl) rfl dX7_account_1 ?_
          refine E_aload_n (j := 0) (i := 0) (q := 0) rfl rfl dX7_account_80 ?_
          obtain ⟨r17, h18, hF⟩ := bd_inv hF
          have h18 := ldO_inv h18
          refine gf_RX7_20 rfl hv0 (shape_ord hv0).1 h18.1 dX7_account_81 ?_
          obtain ⟨q19, h20, hF⟩ := bd_inv hF
          refine E_callV (na := 0) (As := []) (S := []) (kc := 1) (ks := 6) (ci := 3) rfl rfl h18.2 (shape_ord h18.2).1 cwV_RX7_347 ⟨Nat.le_of_ble_eq_true rfl, Nat.le_of_ble_eq_true rfl⟩ (T_X1_sumPrices hfl fl _ _ h18.2 _ h20) rfl rfl rfl (Nat.le_of_ble_eq_true rfl) dX7_account_84 ?_
          exact E_iret (Or.inr ⟨rfl, rfl⟩) rfl (by cases hF; exact hr) dX7_account_87
        · have hF := ite_f hF c16
          by_cases c21 : v1 = 4
          · have hF := ite_t hF c21
            refine E_tabIn (off := 87) (tgt := 88) (by rw [c21]; decide) (by rw [c21]; decide) (by rw [c21]; rfl) rfl dX7_account_1 ?_
            refine E_aload_n (j := 0) (i := 0) (q := 0) rfl rfl dX7_account_88 ?_
            obtain ⟨r22, h23, hF⟩ := bd_inv hF
            have h23 := ldO_inv h23
            refine gf_RX7_20 rfl hv0 (shape_ord hv0).1 h23.1 dX7_account_89 ?_
            obtain ⟨q24, h25, hF⟩ := bd_inv hF
            refine E_callV (na := 0) (As := []) (S := []) (kc := 1) (ks := 6) (ci := 3) rfl rfl h23.2 (shape_ord h23.2).1 cwV_RX7_350 ⟨Nat.le_of_ble_eq_true rfl, Nat.le_of_ble_eq_true rfl⟩ (T_X1_sumFees hfl fl _ _ h23.2 _ h25) rfl rfl rfl (Nat.le_of_ble_eq_true rfl) dX7_account_92 ?_
            exact E_iret (Or.inr ⟨rfl, rfl⟩) rfl (by cases hF; exact hr) dX7_account_95
          · have hF := ite_f hF c21
            by_cases c26 : v1 = 5
            · have hF := ite_t hF c26
              refine E_tabIn (off := 95) (tgt := 96) (by rw [c26]; decide) (by rw [c26]; decide) (by rw [c26]; rfl) rfl dX7_account_1 ?_
              refine E_aload_n (j := 0) (i := 0) (q := 0) rfl rfl dX7_account_96 ?_
              obtain ⟨r27, h28, hF⟩ := bd_inv hF
              have h28 := ldO_inv h28
              refine gf_RX7_20 rfl hv0 (shape_ord hv0).1 h28.1 dX7_account_97 ?_
              obtain ⟨q29, h30, hF⟩ := bd_inv hF
              refine E_callV (na := 0) (As := []) (S := []) (kc := 1) (ks := 6) (ci := 3) rfl rfl h28.2 (shape_ord h28.2).1 cwV_RX7_353 ⟨Nat.le_of_ble_eq_true rfl, Nat.le_of_ble_eq_true rfl⟩ (T_X1_countAllGaps hfl fl _ _ h28.2 _ h30) rfl rfl rfl (Nat.le_of_ble_eq_true rfl) dX7_account_100 ?_
              exact E_iret (Or.inr ⟨rfl, rfl⟩) rfl (by cases hF; exact hr) dX7_account_103
            · have hF := ite_f hF c26
              by_cases c31 : v1 = 6
              · have hF := ite_t hF c31
                refine E_tabIn (off := 103) (tgt := 104) (by rw [c31]; decide) (by rw [c31]; decide) (by rw [c31]; rfl) rfl dX7_account_1 ?_
                refine E_aload_n (j := 0) (i := 0) (q := 0) rfl rfl dX7_account_104 ?_
                obtain ⟨r32, h33, hF⟩ := bd_inv hF
                have h33 := ldO_inv h33
                refine gf_RX7_20 rfl hv0 (shape_ord hv0).1 h33.1 dX7_account_105 ?_
                obtain ⟨q34, h35, hF⟩ := bd_inv hF
                refine E_callV (na := 0) (As := []) (S := []) (kc := 1) (ks := 6) (ci := 3) rfl rfl h33.2 (shape_ord h33.2).1 cwV_RX7_356 ⟨Nat.le_of_ble_eq_true rfl, Nat.le_of_ble_eq_true rfl⟩ (T_X1_countAllBusyNights hfl fl _ _ h33.2 _ h35) rfl rfl rfl (Nat.le_of_ble_eq_true rfl) dX7_account_108 ?_
                exact E_iret (Or.inr ⟨rfl, rfl⟩) rfl (by cases hF; exact hr) dX7_account_111
              · have hF := ite_f hF c31
                by_cases c36 : v1 = 7
                · have hF := ite_t hF c36
                  refine E_tabIn (off := 111) (tgt := 112) (by rw [c36]; decide) (by rw [c36]; decide) (by rw [c36]; rfl) rfl dX7_account_1 ?_
                  refine E_aload_n (j := 0) (i := 0) (q := 0) rfl rfl dX7_account_112 ?_
                  obtain ⟨r37, h38, hF⟩ := bd_inv hF
                  have h38 := ldO_inv h38
                  refine gf_RX7_20 rfl hv0 (shape_ord hv0).1 h38.1 dX7_account_113 ?_
                  refine gf_RX7_144 rfl h38.2 (shape_ord h38.2).1 dX7_account_116 ?_
                  exact E_iret (Or.inr ⟨rfl, rfl⟩) rfl (by cases hF; exact hr) dX7_account_119
                · have hF := ite_f hF c36
                  refine E_tabOut (tgt := 120) (tab_out fun z9 z1 z2 => by rcases (show z9 = 0 ∨ z9 = 1 ∨ z9 = 2 ∨ z9 = 3 ∨ z9 = 4 ∨ z9 = 5 ∨ z9 = 6 ∨ z9 = 7 by omega) with rfl | rfl | rfl | rfl | rfl | rfl | rfl | rfl; exact c1; exact c4; exact c9; exact c16; exact c21; exact c26; exact c31; exact c36) rfl dX7_account_1 ?_
                  exact E_throwW (ex := 1) (text := "there is no such account") (kc := 0) (ks := 0) rfl rfl (by cases hF; exact hr) wT193 wT194 (by decide +kernel) at_RX7_64.1 at_RX7_64.2 (by decide +kernel) ⟨Nat.le_of_ble_eq_true rfl, Nat.le_of_ble_eq_true rfl⟩ (Nat.le_of_ble_eq_true rfl) dX7_account_120 dX7_account_123 dX7_account_124 dX7_account_127 dX7_account_130
set_option maxHeartbeats 4000000 in
set_option maxRecDepth 100000 in
theorem T_X7_share {l : Launch} (hfl : l.stackTraces = false) (fl : Nat) (v0 : Nat) (s : Mem) (hv0 : shape v0 = some (.inl 9)) (ρ : ((Nat ⊕ UInt64) × Mem)) (hF : F_X7_share fl v0 s = some ρ) : MetX l X_X7_share NF s [.ref v0] (rXd ρ.1, NF, ρ.2) := by
  unfold F_X7_share at hF
  obtain ⟨r, hr⟩ : ∃ r : Rs, r = (rXd ρ.1, NF, ρ.2) := ⟨_, rfl⟩
  rw [← hr]
  refine metX_of_E rfl rfl (by decide +kernel) hfl rfl (Nat.le_of_ble_eq_true rfl) ?_
  show E l X_X7_share r false NF s 1 6 0 [(0, .ref v0)] []
  refine E_aload_n (j := 0) (i := 0) (q := 0) rfl rfl dX7_share_0 ?_
  obtain ⟨r1, h2, hF⟩ := bd_inv hF
  have h2 := ldO_inv h2
  refine gf_RX7_20 rfl hv0 (shape_ord hv0).1 h2.1 dX7_share_1 ?_
  refine gf_RX7_67 rfl h2.2 (shape_ord h2.2).1 dX7_share_4 ?_
  refine E_if_gt (tgt := 21) rfl dX7_share_7 (fun c3 => ?_) (fun c3 => ?_)
  · have hF := ite_t hF c3
    refine E_aload_n (j := 0) (i := 0) (q := 0) rfl rfl dX7_share_21 ?_
    obtain ⟨r4, h5, hF⟩ := bd_inv hF
    have h5 := ldO_inv h5
    refine gf_RX7_20 rfl hv0 (shape_ord hv0).1 h5.1 dX7_share_22 ?_
    obtain ⟨q6, h7, hF⟩ := bd_inv hF
    refine E_callV (na := 0) (As := []) (S := []) (kc := 1) (ks := 6) (ci := 3) rfl rfl h5.2 (shape_ord h5.2).1 cwV_RX7_356 ⟨Nat.le_of_ble_eq_true rfl, Nat.le_of_ble_eq_true rfl⟩ (T_X1_countAllBusyNights hfl fl _ _ h5.2 _ h7) rfl rfl rfl (Nat.le_of_ble_eq_true rfl) dX7_share_25 ?_
    refine E_i2d dX7_share_28 ?_
    refine E_bipush (v := (60 : Int32)) rfl dX7_share_29 ?_
    refine E_aload_n (j := 0) (i := 0) (q := 0) rfl rfl dX7_share_31 ?_
    obtain ⟨r8, h9, hF⟩ := bd_inv hF
    have h9 := ldO_inv h9
    refine gf_RX7_20 rfl hv0 (shape_ord hv0).1 h9.1 dX7_share_32 ?_
    refine gf_RX7_67 rfl h9.2 (shape_ord h9.2).1 dX7_share_35 ?_
    refine E_imul dX7_share_38 ?_
    refine E_i2d dX7_share_39 ?_
    obtain ⟨h10, hF⟩ := gd_inv hF
    refine E_ddiv h10 dX7_share_40 ?_
    exact E_dret (Or.inr ⟨rfl, rfl⟩) rfl (by cases hF; exact hr) dX7_share_41
  · have hF := ite_f hF c3
    exact E_throwW (ex := 4) (text := "there are no pitches") (kc := 0) (ks := 0) rfl rfl (by cases hF; exact hr) wT332 wT333 (by decide +kernel) at_RX7_365.1 at_RX7_365.2 (by decide +kernel) ⟨Nat.le_of_ble_eq_true rfl, Nat.le_of_ble_eq_true rfl⟩ (Nat.le_of_ble_eq_true rfl) dX7_share_10 dX7_share_13 dX7_share_14 dX7_share_17 dX7_share_20
set_option maxHeartbeats 4000000 in
set_option maxRecDepth 100000 in
theorem T_X7_undo {l : Launch} (hfl : l.stackTraces = false) (fl : Nat) (v0 : Nat) (s : Mem) (hv0 : shape v0 = some (.inl 9)) (ρ : ((Nat ⊕ Int32) × Mem)) (hF : F_X7_undo fl v0 s = some ρ) : MetX l X_X7_undo NF s [.ref v0] (rX ρ.1, NF, ρ.2) := by
  unfold F_X7_undo at hF
  obtain ⟨r, hr⟩ : ∃ r : Rs, r = (rX ρ.1, NF, ρ.2) := ⟨_, rfl⟩
  rw [← hr]
  refine metX_of_E rfl rfl (by decide +kernel) hfl rfl (Nat.le_of_ble_eq_true rfl) ?_
  show E l X_X7_undo r false NF s 1 6 0 [(0, .ref v0)] []
  refine E_aload_n (j := 0) (i := 0) (q := 0) rfl rfl dX7_undo_0 ?_
  obtain ⟨r1, h2, hF⟩ := bd_inv hF
  have h2 := ldO_inv h2
  refine gf_RX7_34 rfl hv0 (shape_ord hv0).1 h2.1 dX7_undo_1 ?_
  refine gf_RX7_366 rfl h2.2 (shape_ord h2.2).1 dX7_undo_4 ?_
  refine E_if_gt (tgt := 21) rfl dX7_undo_7 (fun c3 => ?_) (fun c3 => ?_)
  · have hF := ite_t hF c3
    refine E_aload_n (j := 0) (i := 0) (q := 0) rfl rfl dX7_undo_21 ?_
    obtain ⟨r4, h5, hF⟩ := bd_inv hF
    have h5 := ldO_inv h5
    refine gf_RX7_34 rfl hv0 (shape_ord hv0).1 h5.1 dX7_undo_22 ?_
    refine E_aload_n (j := 0) (i := 0) (q := 0) rfl rfl dX7_undo_25 ?_
    obtain ⟨r6, h7, hF⟩ := bd_inv hF
    have h7 := ldO_inv h7
    refine gf_RX7_20 rfl hv0 (shape_ord hv0).1 h7.1 dX7_undo_26 ?_
    obtain ⟨q8, h9, hF⟩ := bd_inv hF
    refine E_callV (na := 1) (As := [.ref r6]) (S := []) (kc := 1) (ks := 6) (ci := 4) rfl rfl h5.2 (shape_ord h5.2).1 cwV_RX7_371 ⟨Nat.le_of_ble_eq_true rfl, Nat.le_of_ble_eq_true rfl⟩ (T_X2_takeBack hfl fl _ _ _ h5.2 h7.2 _ h9) rfl rfl rfl (Nat.le_of_ble_eq_true rfl) dX7_undo_29 ?_
    refine E_aload_n (j := 0) (i := 0) (q := 0) rfl rfl dX7_undo_32 ?_
    obtain ⟨r10, h11, hF⟩ := bd_inv hF
    have h11 := ldO_inv h11
    refine gf_RX7_34 rfl hv0 (shape_ord hv0).1 h11.1 dX7_undo_33 ?_
    refine gf_RX7_366 rfl h11.2 (shape_ord h11.2).1 dX7_undo_36 ?_
    exact E_iret (Or.inr ⟨rfl, rfl⟩) rfl (by cases hF; exact hr) dX7_undo_39
  · have hF := ite_f hF c3
    exact E_throwW (ex := 2) (text := "no change is kept") (kc := 0) (ks := 0) rfl rfl (by cases hF; exact hr) wT207 wT208 (by decide +kernel) at_RX7_74.1 at_RX7_74.2 (by decide +kernel) ⟨Nat.le_of_ble_eq_true rfl, Nat.le_of_ble_eq_true rfl⟩ (Nat.le_of_ble_eq_true rfl) dX7_undo_10 dX7_undo_13 dX7_undo_14 dX7_undo_17 dX7_undo_20
set_option maxHeartbeats 4000000 in
set_option maxRecDepth 100000 in
theorem T_X7_save {l : Launch} (hfl : l.stackTraces = false) (fl : Nat) (v0 : Nat) (s : Mem) (hv0 : shape v0 = some (.inl 9)) (ρ : Mem) (hF : F_X7_save fl v0 s = some ρ) : MetN l X_X7_save false NF s [.ref v0] (.inr none, NF, ρ) := by
  unfold F_X7_save at hF
  obtain ⟨r, hr⟩ : ∃ r : Rs, r = (.inr none, NF, ρ) := ⟨_, rfl⟩
  rw [← hr]
  refine met_of_E rfl rfl (by decide +kernel) hfl rfl (Nat.le_of_ble_eq_true rfl) ?_
  show E l X_X7_save r false NF s 0 0 0 [(0, .ref v0)] []
  refine E_aload_n (j := 0) (i := 0) (q := 0) rfl rfl dX7_save_0 ?_
  obtain ⟨r1, h2, hF⟩ := bd_inv hF
  have h2 := ldO_inv h2
  refine gf_RX7_24 rfl hv0 (shape_ord hv0).1 h2.1 dX7_save_1 ?_
  refine E_aload_n (j := 0) (i := 0) (q := 0) rfl rfl dX7_save_4 ?_
  obtain ⟨r3, h4, hF⟩ := bd_inv hF
  have h4 := ldO_inv h4
  refine gf_RX7_20 rfl hv0 (shape_ord hv0).1 h4.1 dX7_save_5 ?_
  obtain ⟨q5, h6, hF⟩ := bd_inv hF
  refine E_callV (na := 1) (As := [.ref r3]) (S := []) (kc := 0) (ks := 0) (ci := 3) rfl rfl h2.2 (shape_ord h2.2).1 cwV_RX7_374 ⟨Nat.le_of_ble_eq_true rfl, Nat.le_of_ble_eq_true rfl⟩ (T_X1_copyFrom hfl fl _ _ _ h2.2 h4.2 _ h6) rfl rfl rfl (Nat.le_of_ble_eq_true rfl) dX7_save_8 ?_
  refine E_aload_n (j := 0) (i := 0) (q := 0) rfl rfl dX7_save_11 ?_
  refine E_iconst (v := (1 : Int32)) rfl dX7_save_12 ?_
  refine pf_RX7_27 rfl (by decide) hv0 (shape_ord hv0).1 dX7_save_13 ?_
  obtain ⟨m7, e8, hF⟩ := nx_inv hF
  refine E_mem e8 ?_
  exact E_vret (Or.inl rfl) rfl (by cases hF; exact hr) dX7_save_16
set_option maxHeartbeats 4000000 in
set_option maxRecDepth 100000 in
theorem T_X7_restore {l : Launch} (hfl : l.stackTraces = false) (fl : Nat) (v0 : Nat) (s : Mem) (hv0 : shape v0 = some (.inl 9)) (ρ : ((Nat ⊕ Unit) × Mem)) (hF : F_X7_restore fl v0 s = some ρ) : MetX l X_X7_restore NF s [.ref v0] (rXv ρ.1, NF, ρ.2) := by
  unfold F_X7_restore at hF
  obtain ⟨r, hr⟩ : ∃ r : Rs, r = (rXv ρ.1, NF, ρ.2) := ⟨_, rfl⟩
  rw [← hr]
  refine metX_of_E rfl rfl (by decide +kernel) hfl rfl (Nat.le_of_ble_eq_true rfl) ?_
  show E l X_X7_restore r false NF s 1 6 0 [(0, .ref v0)] []
  refine E_aload_n (j := 0) (i := 0) (q := 0) rfl rfl dX7_restore_0 ?_
  refine gf_RX7_27 rfl hv0 (shape_ord hv0).1 dX7_restore_1 ?_
  refine E_if_ne (tgt := 18) rfl dX7_restore_4 (fun c1 => ?_) (fun c1 => ?_)
  · have hF := ite_f hF c1
    refine E_aload_n (j := 0) (i := 0) (q := 0) rfl rfl dX7_restore_18 ?_
    obtain ⟨r2, h3, hF⟩ := bd_inv hF
    have h3 := ldO_inv h3
    refine gf_RX7_20 rfl hv0 (shape_ord hv0).1 h3.1 dX7_restore_19 ?_
    refine E_aload_n (j := 0) (i := 0) (q := 0) rfl rfl dX7_restore_22 ?_
    obtain ⟨r4, h5, hF⟩ := bd_inv hF
    have h5 := ldO_inv h5
    refine gf_RX7_24 rfl hv0 (shape_ord hv0).1 h5.1 dX7_restore_23 ?_
    obtain ⟨q6, h7, hF⟩ := bd_inv hF
    refine E_callV (na := 1) (As := [.ref r4]) (S := []) (kc := 1) (ks := 6) (ci := 3) rfl rfl h3.2 (shape_ord h3.2).1 cwV_RX7_374 ⟨Nat.le_of_ble_eq_true rfl, Nat.le_of_ble_eq_true rfl⟩ (T_X1_copyFrom hfl fl _ _ _ h3.2 h5.2 _ h7) rfl rfl rfl (Nat.le_of_ble_eq_true rfl) dX7_restore_26 ?_
    refine E_aload_n (j := 0) (i := 0) (q := 0) rfl rfl dX7_restore_29 ?_
    obtain ⟨r8, h9, hF⟩ := bd_inv hF
    have h9 := ldO_inv h9
    refine gf_RX7_34 rfl hv0 (shape_ord hv0).1 h9.1 dX7_restore_30 ?_
    refine E_iconst (v := (0 : Int32)) rfl dX7_restore_33 ?_
    refine pf_RX7_366 rfl h9.2 (shape_ord h9.2).1 dX7_restore_34 ?_
    obtain ⟨m10, e11, hF⟩ := nx_inv hF
    refine E_mem e11 ?_
    exact E_vret (Or.inr ⟨rfl, rfl⟩) rfl (by cases hF; exact hr) dX7_restore_37
  · have hF := ite_t hF c1
    exact E_throwW (ex := 2) (text := "there is no snapshot") (kc := 0) (ks := 0) rfl rfl (by cases hF; exact hr) wT207 wT208 (by decide +kernel) at_RX7_74.1 at_RX7_74.2 (by decide +kernel) ⟨Nat.le_of_ble_eq_true rfl, Nat.le_of_ble_eq_true rfl⟩ (Nat.le_of_ble_eq_true rfl) dX7_restore_7 dX7_restore_10 dX7_restore_11 dX7_restore_14 dX7_restore_17
set_option maxHeartbeats 4000000 in
set_option maxRecDepth 100000 in
theorem T_X8_thrown {l : Launch} (hfl : l.stackTraces = false) (fl : Nat) (v0 : Nat) (s : Mem) (hv0 : shape v0 = some (.inl 10)) (ρ : Int32) (hF : F_X8_thrown fl v0 s = some ρ) : MetN l X_X8_thrown false NF s [.ref v0] (.inr (some (.int ρ)), NF, s) := by
  unfold F_X8_thrown at hF
  obtain ⟨r, hr⟩ : ∃ r : Rs, r = (.inr (some (.int ρ)), NF, s) := ⟨_, rfl⟩
  rw [← hr]
  refine met_of_E rfl rfl (by decide +kernel) hfl rfl (Nat.le_of_ble_eq_true rfl) ?_
  show E l X_X8_thrown r false NF s 0 0 0 [(0, .ref v0)] []
  refine E_aload_n (j := 0) (i := 0) (q := 0) rfl rfl dX8_thrown_0 ?_
  refine gf_RX8_42 rfl hv0 (shape_ord hv0).1 dX8_thrown_1 ?_
  exact E_iret (Or.inl rfl) rfl (by cases hF; exact hr) dX8_thrown_4
set_option maxHeartbeats 4000000 in
set_option maxRecDepth 100000 in
theorem T_X8_in {l : Launch} (hfl : l.stackTraces = false) (fl : Nat) (v0 : Int32) (v1 : Int32) (v2 : Int32) (s : Mem) (ρ : Int32) (hF : F_X8_in fl v0 v1 v2 s = some ρ) : MetN l X_X8_in false NF s [.int v0, .int v1, .int v2] (.inr (some (.int ρ)), NF, s) := by
  unfold F_X8_in at hF
  obtain ⟨r, hr⟩ : ∃ r : Rs, r = (.inr (some (.int ρ)), NF, s) := ⟨_, rfl⟩
  rw [← hr]
  refine met_of_E rfl rfl (by decide +kernel) hfl rfl (Nat.le_of_ble_eq_true rfl) ?_
  show E l X_X8_in r false NF s 0 0 0 [(0, .int v0), (1, .int v1), (2, .int v2)] []
  refine E_iload_n (j := 0) (i := 0) (q := 0) rfl rfl dX8_in_0 ?_
  refine E_iload_n (j := 1) (i := 1) (q := 1) rfl rfl dX8_in_1 ?_
  refine E_icmp_lt (tgt := 14) rfl dX8_in_2 (fun c1 => ?_) (fun c1 => ?_)
  · have hF := ite_t hF c1
    refine E_iconst (v := (0 : Int32)) rfl dX8_in_14 ?_
    exact E_zret (ty := .boolean) (Or.inl rfl) rfl rfl (by cases hF; exact hr) dX8_in_15
  · have hF := ite_f hF c1
    refine E_iload_n (j := 0) (i := 0) (q := 0) rfl rfl dX8_in_5 ?_
    refine E_iload_n (j := 2) (i := 2) (q := 2) rfl rfl dX8_in_6 ?_
    refine E_icmp_gt (tgt := 14) rfl dX8_in_7 (fun c2 => ?_) (fun c2 => ?_)
    · have hF := ite_t hF c2
      refine E_iconst (v := (0 : Int32)) rfl dX8_in_14 ?_
      exact E_zret (ty := .boolean) (Or.inl rfl) rfl rfl (by cases hF; exact hr) dX8_in_15
    · have hF := ite_f hF c2
      refine E_iconst (v := (1 : Int32)) rfl dX8_in_10 ?_
      refine E_goto (tgt := 15) rfl dX8_in_11 ?_
      exact E_zret (ty := .boolean) (Or.inl rfl) rfl rfl (by cases hF; exact hr) dX8_in_15
set_option maxHeartbeats 4000000 in
set_option maxRecDepth 100000 in
theorem T_X8_copies_2 {l : Launch} (hfl : l.stackTraces = false) (fl : Nat) {r : Rs} {ρ : Mem} (hr : r = (.inr none, NF, ρ)) : ∀ (n : Nat) (v0 : Nat) (v1 : Int32) (v2 : Int32) (v3 : Int32) (s : Mem) (hv0 : shape v0 = some (.inl 10)), B_X8_copies_2 fl n v0 v1 v2 v3 s = some ρ → E l X_X8_copies r false NF s 0 0 2 [(0, .ref v0), (1, .int v1), (2, .int v2), (3, .int v3)] [] := by
  intro n
  induction n with
  | zero =>
    intro v0 v1 v2 v3 s hv0 hF
    cases hF
  | succ n ih =>
    intro v0 v1 v2 v3 s hv0 hF
    refine E_iload_n (j := 3) (i := 3) (q := 3) rfl rfl dX8_copies_2 ?_
    refine E_sipush (v := (170 : Int32)) rfl dX8_copies_3 ?_
    refine E_icmp_ge (tgt := 39) rfl dX8_copies_6 (fun c1 => ?_) (fun c1 => ?_)
    · have hF := ite_t hF c1
      exact E_vret (Or.inl rfl) rfl (by cases hF; exact hr) dX8_copies_39
    · have hF := ite_f hF c1
      refine E_aload_n (j := 0) (i := 0) (q := 0) rfl rfl dX8_copies_9 ?_
      obtain ⟨r2, h3, hF⟩ := bd_inv hF
      have h3 := ldA_inv h3
      refine gf_RX8_9 rfl hv0 (shape_ord hv0).1 h3.1 dX8_copies_10 ?_
      refine E_sipush (v := (170 : Int32)) rfl dX8_copies_13 ?_
      refine E_iload_n (j := 2) (i := 2) (q := 2) rfl rfl dX8_copies_16 ?_
      refine E_imul dX8_copies_17 ?_
      refine E_iload_n (j := 3) (i := 3) (q := 3) rfl rfl dX8_copies_18 ?_
      refine E_iadd dX8_copies_19 ?_
      refine E_aload_n (j := 0) (i := 0) (q := 0) rfl rfl dX8_copies_20 ?_
      obtain ⟨r4, h5, hF⟩ := bd_inv hF
      have h5 := ldA_inv h5
      refine gf_RX8_9 rfl hv0 (shape_ord hv0).1 h5.1 dX8_copies_21 ?_
      refine E_sipush (v := (170 : Int32)) rfl dX8_copies_24 ?_
      refine E_iload_n (j := 1) (i := 1) (q := 1) rfl rfl dX8_copies_27 ?_
      refine E_imul dX8_copies_28 ?_
      refine E_iload_n (j := 3) (i := 3) (q := 3) rfl rfl dX8_copies_29 ?_
      refine E_iadd dX8_copies_30 ?_
      obtain ⟨h6, hF⟩ := gd_inv hF
      refine E_iald _ h5.2 (shape_ord h5.2).1 h6 dX8_copies_31 ?_
      obtain ⟨h7, hF⟩ := gd_inv hF
      refine E_iast _ h3.2 (shape_ord h3.2).1 h7 dX8_copies_32 ?_
      obtain ⟨m8, e9, hF⟩ := nx_inv hF
      refine E_mem e9 ?_
      refine E_iinc (q := 3) (v := (v3 + (1 : Int32))) (L' := [(3, .int (v3 + (1 : Int32))), (0, .ref v0), (1, .int v1), (2, .int v2)]) rfl rfl (Nat.le_of_ble_eq_true rfl) rfl dX8_copies_33 ?_
      refine E_goto (tgt := 2) rfl dX8_copies_36 ?_
      refine E_sub [1, 2, 3, 0] rfl ?_
      exact ih _ _ _ _ _ hv0 hF
set_option maxHeartbeats 4000000 in
set_option maxRecDepth 100000 in
theorem T_X8_copies {l : Launch} (hfl : l.stackTraces = false) (fl : Nat) (v0 : Nat) (v1 : Int32) (v2 : Int32) (s : Mem) (hv0 : shape v0 = some (.inl 10)) (ρ : Mem) (hF : F_X8_copies fl v0 v1 v2 s = some ρ) : MetN l X_X8_copies false NF s [.ref v0, .int v1, .int v2] (.inr none, NF, ρ) := by
  unfold F_X8_copies at hF
  obtain ⟨r, hr⟩ : ∃ r : Rs, r = (.inr none, NF, ρ) := ⟨_, rfl⟩
  rw [← hr]
  refine met_of_E rfl rfl (by decide +kernel) hfl rfl (Nat.le_of_ble_eq_true rfl) ?_
  show E l X_X8_copies r false NF s 0 0 0 [(0, .ref v0), (1, .int v1), (2, .int v2)] []
  refine E_iconst (v := (0 : Int32)) rfl dX8_copies_0 ?_
  refine E_istore_n (j := 3) (i := 3) (L' := [(3, .int (0 : Int32)), (0, .ref v0), (1, .int v1), (2, .int v2)]) rfl (Nat.le_of_ble_eq_true rfl) rfl dX8_copies_1 ?_
  refine E_sub [1, 2, 3, 0] rfl ?_
  exact T_X8_copies_2 hfl fl hr  fl _ _ _ _ _ hv0 hF
set_option maxHeartbeats 4000000 in
set_option maxRecDepth 100000 in
theorem T_X8_keeps_41 {l : Launch} (hfl : l.stackTraces = false) (fl : Nat) {r : Rs} {ρ : Mem} (hr : r = (.inr none, NF, ρ)) (v0 : Nat) (s : Mem) (hv0 : shape v0 = some (.inl 10)) (hF : B_X8_keeps_41 fl v0 s = some ρ) : E l X_X8_keeps r false NF s 0 0 41 [(0, .ref v0)] [] := by
  unfold B_X8_keeps_41 at hF
  refine E_aload_n (j := 0) (i := 0) (q := 0) rfl rfl dX8_keeps_41 ?_
  refine E_dup rfl dX8_keeps_42 ?_
  refine gf_RX8_45 rfl hv0 (shape_ord hv0).1 dX8_keeps_43 ?_
  refine E_iconst (v := (1 : Int32)) rfl dX8_keeps_46 ?_
  refine E_iadd dX8_keeps_47 ?_
  refine pf_RX8_45 rfl hv0 (shape_ord hv0).1 dX8_keeps_48 ?_
  obtain ⟨m1, e2, hF⟩ := nx_inv hF
  refine E_mem e2 ?_
  refine E_aload_n (j := 0) (i := 0) (q := 0) rfl rfl dX8_keeps_51 ?_
  refine E_iconst (v := (0 : Int32)) rfl dX8_keeps_52 ?_
  refine E_aload_n (j := 0) (i := 0) (q := 0) rfl rfl dX8_keeps_53 ?_
  refine gf_RX8_45 rfl hv0 (shape_ord hv0).1 dX8_keeps_54 ?_
  obtain ⟨q3, h4, hF⟩ := bd_inv hF
  refine E_callV (na := 2) (As := [.int (0 : Int32), .int (gI m1 v0 2)]) (S := []) (kc := 0) (ks := 0) (ci := 10) rfl rfl hv0 (shape_ord hv0).1 cwV_RX8_48 ⟨Nat.le_of_ble_eq_true rfl, Nat.le_of_ble_eq_true rfl⟩ (T_X8_copies hfl fl _ _ _ _ hv0 _ h4) rfl rfl rfl (Nat.le_of_ble_eq_true rfl) dX8_keeps_57 ?_
  exact E_vret (Or.inl rfl) rfl (by cases hF; exact hr) dX8_keeps_60
set_option maxHeartbeats 4000000 in
set_option maxRecDepth 100000 in
theorem T_X8_keeps_11 {l : Launch} (hfl : l.stackTraces = false) (fl : Nat) {r : Rs} {ρ : Mem} (hr : r = (.inr none, NF, ρ)) : ∀ (n : Nat) (v0 : Nat) (v1 : Int32) (s : Mem) (hv0 : shape v0 = some (.inl 10)), B_X8_keeps_11 fl n v0 v1 s = some ρ → E l X_X8_keeps r false NF s 0 0 11 [(0, .ref v0), (1, .int v1)] [] := by
  intro n
  induction n with
  | zero =>
    intro v0 v1 s hv0 hF
    cases hF
  | succ n ih =>
    intro v0 v1 s hv0 hF
    refine E_iload_n (j := 1) (i := 1) (q := 1) rfl rfl dX8_keeps_11 ?_
    refine E_bipush (v := (8 : Int32)) rfl dX8_keeps_12 ?_
    refine E_icmp_ge (tgt := 31) rfl dX8_keeps_14 (fun c5 => ?_) (fun c5 => ?_)
    · have hF := ite_t hF c5
      refine E_aload_n (j := 0) (i := 0) (q := 0) rfl rfl dX8_keeps_31 ?_
      refine E_dup rfl dX8_keeps_32 ?_
      refine gf_RX8_45 rfl hv0 (shape_ord hv0).1 dX8_keeps_33 ?_
      refine E_iconst (v := (1 : Int32)) rfl dX8_keeps_36 ?_
      refine E_isub dX8_keeps_37 ?_
      refine pf_RX8_45 rfl hv0 (shape_ord hv0).1 dX8_keeps_38 ?_
      obtain ⟨m6, e7, hF⟩ := nx_inv hF
      refine E_mem e7 ?_
      refine E_sub [0] rfl ?_
      exact T_X8_keeps_41 hfl fl hr  _ _ hv0 hF
    · have hF := ite_f hF c5
      refine E_aload_n (j := 0) (i := 0) (q := 0) rfl rfl dX8_keeps_17 ?_
      refine E_iload_n (j := 1) (i := 1) (q := 1) rfl rfl dX8_keeps_18 ?_
      refine E_iconst (v := (1 : Int32)) rfl dX8_keeps_19 ?_
      refine E_iadd dX8_keeps_20 ?_
      refine E_iload_n (j := 1) (i := 1) (q := 1) rfl rfl dX8_keeps_21 ?_
      obtain ⟨q8, h9, hF⟩ := bd_inv hF
      refine E_callV (na := 2) (As := [.int (v1 + (1 : Int32)), .int v1]) (S := []) (kc := 0) (ks := 0) (ci := 10) rfl rfl hv0 (shape_ord hv0).1 cwV_RX8_48 ⟨Nat.le_of_ble_eq_true rfl, Nat.le_of_ble_eq_true rfl⟩ (T_X8_copies hfl fl _ _ _ _ hv0 _ h9) rfl rfl rfl (Nat.le_of_ble_eq_true rfl) dX8_keeps_22 ?_
      refine E_iinc (q := 1) (v := (v1 + (1 : Int32))) (L' := [(1, .int (v1 + (1 : Int32))), (0, .ref v0)]) rfl rfl (Nat.le_of_ble_eq_true rfl) rfl dX8_keeps_25 ?_
      refine E_goto (tgt := 11) rfl dX8_keeps_28 ?_
      refine E_sub [1, 0] rfl ?_
      exact ih _ _ _ hv0 hF
set_option maxHeartbeats 4000000 in
set_option maxRecDepth 100000 in
theorem T_X8_keeps {l : Launch} (hfl : l.stackTraces = false) (fl : Nat) (v0 : Nat) (s : Mem) (hv0 : shape v0 = some (.inl 10)) (ρ : Mem) (hF : F_X8_keeps fl v0 s = some ρ) : MetN l X_X8_keeps false NF s [.ref v0] (.inr none, NF, ρ) := by
  unfold F_X8_keeps at hF
  obtain ⟨r, hr⟩ : ∃ r : Rs, r = (.inr none, NF, ρ) := ⟨_, rfl⟩
  rw [← hr]
  refine met_of_E rfl rfl (by decide +kernel) hfl rfl (Nat.le_of_ble_eq_true rfl) ?_
  show E l X_X8_keeps r false NF s 0 0 0 [(0, .ref v0)] []
  refine E_aload_n (j := 0) (i := 0) (q := 0) rfl rfl dX8_keeps_0 ?_
  refine gf_RX8_45 rfl hv0 (shape_ord hv0).1 dX8_keeps_1 ?_
  refine E_bipush (v := (8 : Int32)) rfl dX8_keeps_4 ?_
  refine E_icmp_ne (tgt := 41) rfl dX8_keeps_6 (fun c10 => ?_) (fun c10 => ?_)
  · have hF := ite_f hF c10
    refine E_sub [0] rfl ?_
    exact T_X8_keeps_41 hfl fl hr  _ _ hv0 hF
  · have hF := ite_t hF c10
    refine E_iconst (v := (1 : Int32)) rfl dX8_keeps_9 ?_
    refine E_istore_n (j := 1) (i := 1) (L' := [(1, .int (1 : Int32)), (0, .ref v0)]) rfl (Nat.le_of_ble_eq_true rfl) rfl dX8_keeps_10 ?_
    refine E_sub [1, 0] rfl ?_
    exact T_X8_keeps_11 hfl fl hr  fl _ _ _ hv0 hF
set_option maxHeartbeats 4000000 in
set_option maxRecDepth 100000 in
theorem T_X8_isPitch {l : Launch} (hfl : l.stackTraces = false) (fl : Nat) (v0 : Nat) (v1 : Int32) (s : Mem) (hv0 : shape v0 = some (.inl 10)) (ρ : Int32) (hF : F_X8_isPitch fl v0 v1 s = some ρ) : MetN l X_X8_isPitch false NF s [.ref v0, .int v1] (.inr (some (.int ρ)), NF, s) := by
  unfold F_X8_isPitch at hF
  obtain ⟨r, hr⟩ : ∃ r : Rs, r = (.inr (some (.int ρ)), NF, s) := ⟨_, rfl⟩
  rw [← hr]
  refine met_of_E rfl rfl (by decide +kernel) hfl rfl (Nat.le_of_ble_eq_true rfl) ?_
  show E l X_X8_isPitch r false NF s 0 0 0 [(0, .ref v0), (1, .int v1)] []
  refine E_iload_n (j := 1) (i := 1) (q := 1) rfl rfl dX8_isPitch_0 ?_
  refine E_iconst (v := (0 : Int32)) rfl dX8_isPitch_1 ?_
  refine E_aload_n (j := 0) (i := 0) (q := 0) rfl rfl dX8_isPitch_2 ?_
  obtain ⟨r1, h2, hF⟩ := bd_inv hF
  have h2 := ldA_inv h2
  refine gf_RX8_9 rfl hv0 (shape_ord hv0).1 h2.1 dX8_isPitch_3 ?_
  refine E_iconst (v := (0 : Int32)) rfl dX8_isPitch_6 ?_
  obtain ⟨h3, hF⟩ := gd_inv hF
  refine E_iald _ h2.2 (shape_ord h2.2).1 h3 dX8_isPitch_7 ?_
  refine E_iconst (v := (1 : Int32)) rfl dX8_isPitch_8 ?_
  refine E_isub dX8_isPitch_9 ?_
  obtain ⟨q4, h5, hF⟩ := bd_inv hF
  refine E_callS (na := 3) (As := [.int v1, .int (0 : Int32), .int ((gI s r1.1 (0 : Int32).toNatClampNeg) - (1 : Int32))]) (S := []) (kc := 0) (ks := 0) cwS_RX8_52 ⟨Nat.le_of_ble_eq_true rfl, Nat.le_of_ble_eq_true rfl⟩ (T_X8_in hfl fl _ _ _ _  _ h5) rfl rfl rfl (Nat.le_of_ble_eq_true rfl) dX8_isPitch_10 ?_
  obtain ⟨h6, hF⟩ := gd_inv hF
  exact E_zret (ty := .boolean) (Or.inl rfl) rfl (nar_b h6) (by cases hF; exact hr) dX8_isPitch_13
set_option maxHeartbeats 4000000 in
set_option maxRecDepth 100000 in
theorem T_X8_isParty {l : Launch} (hfl : l.stackTraces = false) (fl : Nat) (v0 : Nat) (v1 : Int32) (s : Mem) (hv0 : shape v0 = some (.inl 10)) (ρ : Int32) (hF : F_X8_isParty fl v0 v1 s = some ρ) : MetN l X_X8_isParty false NF s [.ref v0, .int v1] (.inr (some (.int ρ)), NF, s) := by
  unfold F_X8_isParty at hF
  obtain ⟨r, hr⟩ : ∃ r : Rs, r = (.inr (some (.int ρ)), NF, s) := ⟨_, rfl⟩
  rw [← hr]
  refine met_of_E rfl rfl (by decide +kernel) hfl rfl (Nat.le_of_ble_eq_true rfl) ?_
  show E l X_X8_isParty r false NF s 0 0 0 [(0, .ref v0), (1, .int v1)] []
  refine E_iload_n (j := 1) (i := 1) (q := 1) rfl rfl dX8_isParty_0 ?_
  refine E_iconst (v := (0 : Int32)) rfl dX8_isParty_1 ?_
  refine E_aload_n (j := 0) (i := 0) (q := 0) rfl rfl dX8_isParty_2 ?_
  obtain ⟨r1, h2, hF⟩ := bd_inv hF
  have h2 := ldA_inv h2
  refine gf_RX8_9 rfl hv0 (shape_ord hv0).1 h2.1 dX8_isParty_3 ?_
  refine E_iconst (v := (1 : Int32)) rfl dX8_isParty_6 ?_
  obtain ⟨h3, hF⟩ := gd_inv hF
  refine E_iald _ h2.2 (shape_ord h2.2).1 h3 dX8_isParty_7 ?_
  refine E_iconst (v := (1 : Int32)) rfl dX8_isParty_8 ?_
  refine E_isub dX8_isParty_9 ?_
  obtain ⟨q4, h5, hF⟩ := bd_inv hF
  refine E_callS (na := 3) (As := [.int v1, .int (0 : Int32), .int ((gI s r1.1 (1 : Int32).toNatClampNeg) - (1 : Int32))]) (S := []) (kc := 0) (ks := 0) cwS_RX8_52 ⟨Nat.le_of_ble_eq_true rfl, Nat.le_of_ble_eq_true rfl⟩ (T_X8_in hfl fl _ _ _ _  _ h5) rfl rfl rfl (Nat.le_of_ble_eq_true rfl) dX8_isParty_10 ?_
  obtain ⟨h6, hF⟩ := gd_inv hF
  exact E_zret (ty := .boolean) (Or.inl rfl) rfl (nar_b h6) (by cases hF; exact hr) dX8_isParty_13
set_option maxHeartbeats 4000000 in
set_option maxRecDepth 100000 in
theorem T_X8_isNight {l : Launch} (hfl : l.stackTraces = false) (fl : Nat) (v0 : Int32) (s : Mem) (ρ : Int32) (hF : F_X8_isNight fl v0 s = some ρ) : MetN l X_X8_isNight false NF s [.int v0] (.inr (some (.int ρ)), NF, s) := by
  unfold F_X8_isNight at hF
  obtain ⟨r, hr⟩ : ∃ r : Rs, r = (.inr (some (.int ρ)), NF, s) := ⟨_, rfl⟩
  rw [← hr]
  refine met_of_E rfl rfl (by decide +kernel) hfl rfl (Nat.le_of_ble_eq_true rfl) ?_
  show E l X_X8_isNight r false NF s 0 0 0 [(0, .int v0)] []
  refine E_iload_n (j := 0) (i := 0) (q := 0) rfl rfl dX8_isNight_0 ?_
  refine E_iconst (v := (0 : Int32)) rfl dX8_isNight_1 ?_
  refine E_bipush (v := (59 : Int32)) rfl dX8_isNight_2 ?_
  obtain ⟨q1, h2, hF⟩ := bd_inv hF
  refine E_callS (na := 3) (As := [.int v0, .int (0 : Int32), .int (59 : Int32)]) (S := []) (kc := 0) (ks := 0) cwS_RX8_52 ⟨Nat.le_of_ble_eq_true rfl, Nat.le_of_ble_eq_true rfl⟩ (T_X8_in hfl fl _ _ _ _  _ h2) rfl rfl rfl (Nat.le_of_ble_eq_true rfl) dX8_isNight_4 ?_
  obtain ⟨h3, hF⟩ := gd_inv hF
  exact E_zret (ty := .boolean) (Or.inl rfl) rfl (nar_b h3) (by cases hF; exact hr) dX8_isNight_7
set_option maxHeartbeats 4000000 in
set_option maxRecDepth 100000 in
theorem T_X8_isCircuit {l : Launch} (hfl : l.stackTraces = false) (fl : Nat) (v0 : Int32) (s : Mem) (ρ : Int32) (hF : F_X8_isCircuit fl v0 s = some ρ) : MetN l X_X8_isCircuit false NF s [.int v0] (.inr (some (.int ρ)), NF, s) := by
  unfold F_X8_isCircuit at hF
  obtain ⟨r, hr⟩ : ∃ r : Rs, r = (.inr (some (.int ρ)), NF, s) := ⟨_, rfl⟩
  rw [← hr]
  refine met_of_E rfl rfl (by decide +kernel) hfl rfl (Nat.le_of_ble_eq_true rfl) ?_
  show E l X_X8_isCircuit r false NF s 0 0 0 [(0, .int v0)] []
  refine E_iload_n (j := 0) (i := 0) (q := 0) rfl rfl dX8_isCircuit_0 ?_
  refine E_iconst (v := (0 : Int32)) rfl dX8_isCircuit_1 ?_
  refine E_iconst (v := (2 : Int32)) rfl dX8_isCircuit_2 ?_
  obtain ⟨q1, h2, hF⟩ := bd_inv hF
  refine E_callS (na := 3) (As := [.int v0, .int (0 : Int32), .int (2 : Int32)]) (S := []) (kc := 0) (ks := 0) cwS_RX8_52 ⟨Nat.le_of_ble_eq_true rfl, Nat.le_of_ble_eq_true rfl⟩ (T_X8_in hfl fl _ _ _ _  _ h2) rfl rfl rfl (Nat.le_of_ble_eq_true rfl) dX8_isCircuit_3 ?_
  obtain ⟨h3, hF⟩ := gd_inv hF
  exact E_zret (ty := .boolean) (Or.inl rfl) rfl (nar_b h3) (by cases hF; exact hr) dX8_isCircuit_6
set_option maxHeartbeats 4000000 in
set_option maxRecDepth 100000 in
theorem T_X8_ofPitch {l : Launch} (hfl : l.stackTraces = false) (fl : Nat) (v0 : Nat) (v1 : Int32) (v2 : Int32) (s : Mem) (hv0 : shape v0 = some (.inl 10)) (ρ : Int32) (hF : F_X8_ofPitch fl v0 v1 v2 s = some ρ) : MetN l X_X8_ofPitch false NF s [.ref v0, .int v1, .int v2] (.inr (some (.int ρ)), NF, s) := by
  unfold F_X8_ofPitch at hF
  obtain ⟨r, hr⟩ : ∃ r : Rs, r = (.inr (some (.int ρ)), NF, s) := ⟨_, rfl⟩
  rw [← hr]
  refine met_of_E rfl rfl (by decide +kernel) hfl rfl (Nat.le_of_ble_eq_true rfl) ?_
  show E l X_X8_ofPitch r false NF s 0 0 0 [(0, .ref v0), (1, .int v1), (2, .int v2)] []
  refine E_aload_n (j := 0) (i := 0) (q := 0) rfl rfl dX8_ofPitch_0 ?_
  obtain ⟨r1, h2, hF⟩ := bd_inv hF
  have h2 := ldA_inv h2
  refine gf_RX8_9 rfl hv0 (shape_ord hv0).1 h2.1 dX8_ofPitch_1 ?_
  refine E_bipush (v := (8 : Int32)) rfl dX8_ofPitch_4 ?_
  refine E_iconst (v := (5 : Int32)) rfl dX8_ofPitch_6 ?_
  refine E_iload_n (j := 1) (i := 1) (q := 1) rfl rfl dX8_ofPitch_7 ?_
  refine E_imul dX8_ofPitch_8 ?_
  refine E_iadd dX8_ofPitch_9 ?_
  refine E_iload_n (j := 2) (i := 2) (q := 2) rfl rfl dX8_ofPitch_10 ?_
  refine E_iadd dX8_ofPitch_11 ?_
  obtain ⟨h3, hF⟩ := gd_inv hF
  refine E_iald _ h2.2 (shape_ord h2.2).1 h3 dX8_ofPitch_12 ?_
  exact E_iret (Or.inl rfl) rfl (by cases hF; exact hr) dX8_ofPitch_13
set_option maxHeartbeats 4000000 in
set_option maxRecDepth 100000 in
theorem T_X8_of {l : Launch} (hfl : l.stackTraces = false) (fl : Nat) (v0 : Nat) (v1 : Int32) (v2 : Int32) (s : Mem) (hv0 : shape v0 = some (.inl 10)) (ρ : Int32) (hF : F_X8_of fl v0 v1 v2 s = some ρ) : MetN l X_X8_of false NF s [.ref v0, .int v1, .int v2] (.inr (some (.int ρ)), NF, s) := by
  unfold F_X8_of at hF
  obtain ⟨r, hr⟩ : ∃ r : Rs, r = (.inr (some (.int ρ)), NF, s) := ⟨_, rfl⟩
  rw [← hr]
  refine met_of_E rfl rfl (by decide +kernel) hfl rfl (Nat.le_of_ble_eq_true rfl) ?_
  show E l X_X8_of r false NF s 0 0 0 [(0, .ref v0), (1, .int v1), (2, .int v2)] []
  refine E_aload_n (j := 0) (i := 0) (q := 0) rfl rfl dX8_of_0 ?_
  obtain ⟨r1, h2, hF⟩ := bd_inv hF
  have h2 := ldA_inv h2
  refine gf_RX8_9 rfl hv0 (shape_ord hv0).1 h2.1 dX8_of_1 ?_
  refine E_bipush (v := (50 : Int32)) rfl dX8_of_4 ?_
  refine E_bipush (v := (10 : Int32)) rfl dX8_of_6 ?_
  refine E_iload_n (j := 1) (i := 1) (q := 1) rfl rfl dX8_of_8 ?_
  refine E_imul dX8_of_9 ?_
  refine E_iadd dX8_of_10 ?_
  refine E_iload_n (j := 2) (i := 2) (q := 2) rfl rfl dX8_of_11 ?_
  refine E_iadd dX8_of_12 ?_
  obtain ⟨h3, hF⟩ := gd_inv hF
  refine E_iald _ h2.2 (shape_ord h2.2).1 h3 dX8_of_13 ?_
  exact E_iret (Or.inl rfl) rfl (by cases hF; exact hr) dX8_of_14
set_option maxHeartbeats 4000000 in
set_option maxRecDepth 100000 in
theorem T_X8_lays {l : Launch} (hfl : l.stackTraces = false) (fl : Nat) (v0 : Nat) (v1 : Int32) (v2 : Int32) (v3 : Int32) (s : Mem) (hv0 : shape v0 = some (.inl 10)) (ρ : Mem) (hF : F_X8_lays fl v0 v1 v2 v3 s = some ρ) : MetN l X_X8_lays false NF s [.ref v0, .int v1, .int v2, .int v3] (.inr none, NF, ρ) := by
  unfold F_X8_lays at hF
  obtain ⟨r, hr⟩ : ∃ r : Rs, r = (.inr none, NF, ρ) := ⟨_, rfl⟩
  rw [← hr]
  refine met_of_E rfl rfl (by decide +kernel) hfl rfl (Nat.le_of_ble_eq_true rfl) ?_
  show E l X_X8_lays r false NF s 0 0 0 [(0, .ref v0), (1, .int v1), (2, .int v2), (3, .int v3)] []
  refine E_aload_n (j := 0) (i := 0) (q := 0) rfl rfl dX8_lays_0 ?_
  obtain ⟨r1, h2, hF⟩ := bd_inv hF
  have h2 := ldA_inv h2
  refine gf_RX8_9 rfl hv0 (shape_ord hv0).1 h2.1 dX8_lays_1 ?_
  refine E_bipush (v := (50 : Int32)) rfl dX8_lays_4 ?_
  refine E_bipush (v := (10 : Int32)) rfl dX8_lays_6 ?_
  refine E_iload_n (j := 1) (i := 1) (q := 1) rfl rfl dX8_lays_8 ?_
  refine E_imul dX8_lays_9 ?_
  refine E_iadd dX8_lays_10 ?_
  refine E_iload_n (j := 2) (i := 2) (q := 2) rfl rfl dX8_lays_11 ?_
  refine E_iadd dX8_lays_12 ?_
  refine E_iload_n (j := 3) (i := 3) (q := 3) rfl rfl dX8_lays_13 ?_
  obtain ⟨h3, hF⟩ := gd_inv hF
  refine E_iast _ h2.2 (shape_ord h2.2).1 h3 dX8_lays_14 ?_
  obtain ⟨m4, e5, hF⟩ := nx_inv hF
  refine E_mem e5 ?_
  exact E_vret (Or.inl rfl) rfl (by cases hF; exact hr) dX8_lays_15
set_option maxHeartbeats 4000000 in
set_option maxRecDepth 100000 in
theorem T_X8_addPitch_60 {l : Launch} (hfl : l.stackTraces = false) (fl : Nat) {r : Rs} {ρ : (Int32 × Mem)} (hr : r = (.inr (some (.int ρ.1)), NF, ρ.2)) (v0 : Nat) (v1 : Int32) (v2 : Int32) (v3 : Int32) (v4 : Int32) (w0 : Nat) (w1 : Int32) (s : Mem) (hv0 : shape v0 = some (.inl 10)) (hw0 : shape w0 = some (.inl 10)) (hF : B_X8_addPitch_60 fl v0 v1 v2 v3 v4 w0 w1 s = some ρ) : E l X_X8_addPitch r false NF s 0 0 60 [(0, .ref v0), (1, .int v1), (2, .int v2), (3, .int v3), (4, .int v4)] [.int w1, .ref w0] := by
  unfold B_X8_addPitch_60 at hF
  refine pf_RX8_42 rfl hw0 (shape_ord hw0).1 dX8_addPitch_60 ?_
  obtain ⟨m1, e2, hF⟩ := nx_inv hF
  refine E_mem e2 ?_
  refine E_aload_n (j := 0) (i := 0) (q := 0) rfl rfl dX8_addPitch_63 ?_
  refine gf_RX8_42 rfl hv0 (shape_ord hv0).1 dX8_addPitch_64 ?_
  refine E_if_eq (tgt := 72) rfl dX8_addPitch_67 (fun c3 => ?_) (fun c3 => ?_)
  · have hF := ite_t hF c3
    refine E_aload_n (j := 0) (i := 0) (q := 0) rfl rfl dX8_addPitch_72 ?_
    obtain ⟨q4, h5, hF⟩ := bd_inv hF
    refine E_callV (na := 0) (As := []) (S := []) (kc := 0) (ks := 0) (ci := 10) rfl rfl hv0 (shape_ord hv0).1 cwV_RX8_56 ⟨Nat.le_of_ble_eq_true rfl, Nat.le_of_ble_eq_true rfl⟩ (T_X8_keeps hfl fl _ _ hv0 _ h5) rfl rfl rfl (Nat.le_of_ble_eq_true rfl) dX8_addPitch_73 ?_
    refine E_bipush (v := (8 : Int32)) rfl dX8_addPitch_76 ?_
    refine E_iconst (v := (5 : Int32)) rfl dX8_addPitch_78 ?_
    refine E_aload_n (j := 0) (i := 0) (q := 0) rfl rfl dX8_addPitch_79 ?_
    obtain ⟨r6, h7, hF⟩ := bd_inv hF
    have h7 := ldA_inv h7
    refine gf_RX8_9 rfl hv0 (shape_ord hv0).1 h7.1 dX8_addPitch_80 ?_
    refine E_iconst (v := (0 : Int32)) rfl dX8_addPitch_83 ?_
    obtain ⟨h8, hF⟩ := gd_inv hF
    refine E_iald _ h7.2 (shape_ord h7.2).1 h8 dX8_addPitch_84 ?_
    refine E_imul dX8_addPitch_85 ?_
    refine E_iadd dX8_addPitch_86 ?_
    refine E_istore (L' := [(5, .int ((8 : Int32) + ((5 : Int32) * (gI q4 r6.1 (0 : Int32).toNatClampNeg)))), (0, .ref v0), (1, .int v1), (2, .int v2), (3, .int v3), (4, .int v4)]) (Nat.le_of_ble_eq_true rfl) rfl dX8_addPitch_87 ?_
    refine E_aload_n (j := 0) (i := 0) (q := 1) rfl rfl dX8_addPitch_89 ?_
    obtain ⟨r9, h10, hF⟩ := bd_inv hF
    have h10 := ldA_inv h10
    refine gf_RX8_9 rfl hv0 (shape_ord hv0).1 h10.1 dX8_addPitch_90 ?_
    refine E_iload (q := 0) rfl dX8_addPitch_93 ?_
    refine E_iload_n (j := 1) (i := 1) (q := 2) rfl rfl dX8_addPitch_95 ?_
    obtain ⟨h11, hF⟩ := gd_inv hF
    refine E_iast _ h10.2 (shape_ord h10.2).1 h11 dX8_addPitch_96 ?_
    obtain ⟨m12, e13, hF⟩ := nx_inv hF
    refine E_mem e13 ?_
    refine E_aload_n (j := 0) (i := 0) (q := 1) rfl rfl dX8_addPitch_97 ?_
    obtain ⟨r14, h15, hF⟩ := bd_inv hF
    have h15 := ldA_inv h15
    refine gf_RX8_9 rfl hv0 (shape_ord hv0).1 h15.1 dX8_addPitch_98 ?_
    refine E_iload (q := 0) rfl dX8_addPitch_101 ?_
    refine E_iconst (v := (1 : Int32)) rfl dX8_addPitch_103 ?_
    refine E_iadd dX8_addPitch_104 ?_
    refine E_iload_n (j := 2) (i := 2) (q := 3) rfl rfl dX8_addPitch_105 ?_
    obtain ⟨h16, hF⟩ := gd_inv hF
    refine E_iast _ h15.2 (shape_ord h15.2).1 h16 dX8_addPitch_106 ?_
    obtain ⟨m17, e18, hF⟩ := nx_inv hF
    refine E_mem e18 ?_
    refine E_aload_n (j := 0) (i := 0) (q := 1) rfl rfl dX8_addPitch_107 ?_
    obtain ⟨r19, h20, hF⟩ := bd_inv hF
    have h20 := ldA_inv h20
    refine gf_RX8_9 rfl hv0 (shape_ord hv0).1 h20.1 dX8_addPitch_108 ?_
    refine E_iload (q := 0) rfl dX8_addPitch_111 ?_
    refine E_iconst (v := (2 : Int32)) rfl dX8_addPitch_113 ?_
    refine E_iadd dX8_addPitch_114 ?_
    refine E_iload_n (j := 3) (i := 3) (q := 4) rfl rfl dX8_addPitch_115 ?_
    obtain ⟨h21, hF⟩ := gd_inv hF
    refine E_iast _ h20.2 (shape_ord h20.2).1 h21 dX8_addPitch_116 ?_
    obtain ⟨m22, e23, hF⟩ := nx_inv hF
    refine E_mem e23 ?_
    refine E_aload_n (j := 0) (i := 0) (q := 1) rfl rfl dX8_addPitch_117 ?_
    obtain ⟨r24, h25, hF⟩ := bd_inv hF
    have h25 := ldA_inv h25
    refine gf_RX8_9 rfl hv0 (shape_ord hv0).1 h25.1 dX8_addPitch_118 ?_
    refine E_iload (q := 0) rfl dX8_addPitch_121 ?_
    refine E_iconst (v := (3 : Int32)) rfl dX8_addPitch_123 ?_
    refine E_iadd dX8_addPitch_124 ?_
    refine E_iload (q := 5) rfl dX8_addPitch_125 ?_
    obtain ⟨h26, hF⟩ := gd_inv hF
    refine E_iast _ h25.2 (shape_ord h25.2).1 h26 dX8_addPitch_127 ?_
    obtain ⟨m27, e28, hF⟩ := nx_inv hF
    refine E_mem e28 ?_
    refine E_aload_n (j := 0) (i := 0) (q := 1) rfl rfl dX8_addPitch_128 ?_
    obtain ⟨r29, h30, hF⟩ := bd_inv hF
    have h30 := ldA_inv h30
    refine gf_RX8_9 rfl hv0 (shape_ord hv0).1 h30.1 dX8_addPitch_129 ?_
    refine E_iload (q := 0) rfl dX8_addPitch_132 ?_
    refine E_iconst (v := (4 : Int32)) rfl dX8_addPitch_134 ?_
    refine E_iadd dX8_addPitch_135 ?_
    refine E_bipush (v := (10 : Int32)) rfl dX8_addPitch_136 ?_
    obtain ⟨h31, hF⟩ := gd_inv hF
    refine E_iast _ h30.2 (shape_ord h30.2).1 h31 dX8_addPitch_138 ?_
    obtain ⟨m32, e33, hF⟩ := nx_inv hF
    refine E_mem e33 ?_
    refine E_aload_n (j := 0) (i := 0) (q := 1) rfl rfl dX8_addPitch_139 ?_
    obtain ⟨r34, h35, hF⟩ := bd_inv hF
    have h35 := ldA_inv h35
    refine gf_RX8_9 rfl hv0 (shape_ord hv0).1 h35.1 dX8_addPitch_140 ?_
    refine E_iconst (v := (0 : Int32)) rfl dX8_addPitch_143 ?_
    refine E_dup2 rfl rfl dX8_addPitch_144 ?_
    obtain ⟨h36, hF⟩ := gd_inv hF
    refine E_iald _ h35.2 (shape_ord h35.2).1 h36 dX8_addPitch_145 ?_
    refine E_iconst (v := (1 : Int32)) rfl dX8_addPitch_146 ?_
    refine E_iadd dX8_addPitch_147 ?_
    obtain ⟨h37, hF⟩ := gd_inv hF
    refine E_iast _ h35.2 (shape_ord h35.2).1 h37 dX8_addPitch_148 ?_
    obtain ⟨m38, e39, hF⟩ := nx_inv hF
    refine E_mem e39 ?_
    refine E_aload_n (j := 0) (i := 0) (q := 1) rfl rfl dX8_addPitch_149 ?_
    obtain ⟨r40, h41, hF⟩ := bd_inv hF
    have h41 := ldA_inv h41
    refine gf_RX8_9 rfl hv0 (shape_ord hv0).1 h41.1 dX8_addPitch_150 ?_
    refine E_iconst (v := (0 : Int32)) rfl dX8_addPitch_153 ?_
    obtain ⟨h42, hF⟩ := gd_inv hF
    refine E_iald _ h41.2 (shape_ord h41.2).1 h42 dX8_addPitch_154 ?_
    refine E_iconst (v := (1 : Int32)) rfl dX8_addPitch_155 ?_
    refine E_isub dX8_addPitch_156 ?_
    exact E_iret (Or.inl rfl) rfl (by cases hF; exact hr) dX8_addPitch_157
  · have hF := ite_f hF c3
    refine E_iconst (v := (0 : Int32)) rfl dX8_addPitch_70 ?_
    exact E_iret (Or.inl rfl) rfl (by cases hF; exact hr) dX8_addPitch_71
set_option maxHeartbeats 4000000 in
set_option maxRecDepth 100000 in
theorem T_X8_addPitch_40 {l : Launch} (hfl : l.stackTraces = false) (fl : Nat) {r : Rs} {ρ : (Int32 × Mem)} (hr : r = (.inr (some (.int ρ.1)), NF, ρ.2)) (v0 : Nat) (v1 : Int32) (v2 : Int32) (v3 : Int32) (v4 : Int32) (w0 : Nat) (s : Mem) (hv0 : shape v0 = some (.inl 10)) (hw0 : shape w0 = some (.inl 10)) (hF : B_X8_addPitch_40 fl v0 v1 v2 v3 v4 w0 s = some ρ) : E l X_X8_addPitch r false NF s 0 0 40 [(0, .ref v0), (1, .int v1), (2, .int v2), (3, .int v3), (4, .int v4)] [.ref w0] := by
  unfold B_X8_addPitch_40 at hF
  refine E_iconst (v := (1 : Int32)) rfl dX8_addPitch_40 ?_
  refine E_goto (tgt := 60) rfl dX8_addPitch_41 ?_
  refine E_sub [0, 1, 2, 3, 4] rfl ?_
  exact T_X8_addPitch_60 hfl fl hr  _ _ _ _ _ _ _ _ hv0 hw0 hF
set_option maxHeartbeats 4000000 in
set_option maxRecDepth 100000 in
theorem T_X8_addPitch {l : Launch} (hfl : l.stackTraces = false) (fl : Nat) (v0 : Nat) (v1 : Int32) (v2 : Int32) (v3 : Int32) (v4 : Int32) (s : Mem) (hv0 : shape v0 = some (.inl 10)) (ρ : (Int32 × Mem)) (hF : F_X8_addPitch fl v0 v1 v2 v3 v4 s = some ρ) : MetN l X_X8_addPitch false NF s [.ref v0, .int v1, .int v2, .int v3, .int v4] (.inr (some (.int ρ.1)), NF, ρ.2) := by
  unfold F_X8_addPitch at hF
  obtain ⟨r, hr⟩ : ∃ r : Rs, r = (.inr (some (.int ρ.1)), NF, ρ.2) := ⟨_, rfl⟩
  rw [← hr]
  refine met_of_E rfl rfl (by decide +kernel) hfl rfl (Nat.le_of_ble_eq_true rfl) ?_
  show E l X_X8_addPitch r false NF s 0 0 0 [(0, .ref v0), (1, .int v1), (2, .int v2), (3, .int v3), (4, .int v4)] []
  refine E_aload_n (j := 0) (i := 0) (q := 0) rfl rfl dX8_addPitch_0 ?_
  refine E_iload_n (j := 1) (i := 1) (q := 1) rfl rfl dX8_addPitch_1 ?_
  refine E_iconst (v := (0 : Int32)) rfl dX8_addPitch_2 ?_
  refine E_iconst (v := (2 : Int32)) rfl dX8_addPitch_3 ?_
  obtain ⟨q43, h44, hF⟩ := bd_inv hF
  refine E_callS (na := 3) (As := [.int v1, .int (0 : Int32), .int (2 : Int32)]) (S := [.ref v0]) (kc := 0) (ks := 0) cwS_RX8_52 ⟨Nat.le_of_ble_eq_true rfl, Nat.le_of_ble_eq_true rfl⟩ (T_X8_in hfl fl _ _ _ _  _ h44) rfl rfl rfl (Nat.le_of_ble_eq_true rfl) dX8_addPitch_4 ?_
  refine E_if_eq (tgt := 40) rfl dX8_addPitch_7 (fun c45 => ?_) (fun c45 => ?_)
  · have hF := ite_t hF c45
    refine E_sub [0, 1, 2, 3, 4] rfl ?_
    exact T_X8_addPitch_40 hfl fl hr  _ _ _ _ _ _ _ hv0 hv0 hF
  · have hF := ite_f hF c45
    refine E_iload_n (j := 2) (i := 2) (q := 2) rfl rfl dX8_addPitch_10 ?_
    refine E_iconst (v := (2 : Int32)) rfl dX8_addPitch_11 ?_
    refine E_bipush (v := (12 : Int32)) rfl dX8_addPitch_12 ?_
    obtain ⟨q46, h47, hF⟩ := bd_inv hF
    refine E_callS (na := 3) (As := [.int v2, .int (2 : Int32), .int (12 : Int32)]) (S := [.ref v0]) (kc := 0) (ks := 0) cwS_RX8_52 ⟨Nat.le_of_ble_eq_true rfl, Nat.le_of_ble_eq_true rfl⟩ (T_X8_in hfl fl _ _ _ _  _ h47) rfl rfl rfl (Nat.le_of_ble_eq_true rfl) dX8_addPitch_14 ?_
    refine E_if_eq (tgt := 40) rfl dX8_addPitch_17 (fun c48 => ?_) (fun c48 => ?_)
    · have hF := ite_t hF c48
      refine E_sub [0, 1, 2, 3, 4] rfl ?_
      exact T_X8_addPitch_40 hfl fl hr  _ _ _ _ _ _ _ hv0 hv0 hF
    · have hF := ite_f hF c48
      refine E_iload_n (j := 3) (i := 3) (q := 3) rfl rfl dX8_addPitch_20 ?_
      refine E_iconst (v := (2 : Int32)) rfl dX8_addPitch_21 ?_
      refine E_bipush (v := (12 : Int32)) rfl dX8_addPitch_22 ?_
      obtain ⟨q49, h50, hF⟩ := bd_inv hF
      refine E_callS (na := 3) (As := [.int v3, .int (2 : Int32), .int (12 : Int32)]) (S := [.ref v0]) (kc := 0) (ks := 0) cwS_RX8_52 ⟨Nat.le_of_ble_eq_true rfl, Nat.le_of_ble_eq_true rfl⟩ (T_X8_in hfl fl _ _ _ _  _ h50) rfl rfl rfl (Nat.le_of_ble_eq_true rfl) dX8_addPitch_24 ?_
      refine E_if_eq (tgt := 40) rfl dX8_addPitch_27 (fun c51 => ?_) (fun c51 => ?_)
      · have hF := ite_t hF c51
        refine E_sub [0, 1, 2, 3, 4] rfl ?_
        exact T_X8_addPitch_40 hfl fl hr  _ _ _ _ _ _ _ hv0 hv0 hF
      · have hF := ite_f hF c51
        refine E_iload (q := 4) rfl dX8_addPitch_30 ?_
        refine E_iconst (v := (-1 : Int32)) rfl dX8_addPitch_32 ?_
        refine E_iconst (v := (2 : Int32)) rfl dX8_addPitch_33 ?_
        obtain ⟨q52, h53, hF⟩ := bd_inv hF
        refine E_callS (na := 3) (As := [.int v4, .int (-1 : Int32), .int (2 : Int32)]) (S := [.ref v0]) (kc := 0) (ks := 0) cwS_RX8_52 ⟨Nat.le_of_ble_eq_true rfl, Nat.le_of_ble_eq_true rfl⟩ (T_X8_in hfl fl _ _ _ _  _ h53) rfl rfl rfl (Nat.le_of_ble_eq_true rfl) dX8_addPitch_34 ?_
        refine E_if_ne (tgt := 44) rfl dX8_addPitch_37 (fun c54 => ?_) (fun c54 => ?_)
        · have hF := ite_f hF c54
          refine E_aload_n (j := 0) (i := 0) (q := 0) rfl rfl dX8_addPitch_44 ?_
          obtain ⟨r55, h56, hF⟩ := bd_inv hF
          have h56 := ldA_inv h56
          refine gf_RX8_9 rfl hv0 (shape_ord hv0).1 h56.1 dX8_addPitch_45 ?_
          refine E_iconst (v := (0 : Int32)) rfl dX8_addPitch_48 ?_
          obtain ⟨h57, hF⟩ := gd_inv hF
          refine E_iald _ h56.2 (shape_ord h56.2).1 h57 dX8_addPitch_49 ?_
          refine E_bipush (v := (6 : Int32)) rfl dX8_addPitch_50 ?_
          refine E_icmp_ne (tgt := 59) rfl dX8_addPitch_52 (fun c58 => ?_) (fun c58 => ?_)
          · have hF := ite_f hF c58
            refine E_iconst (v := (0 : Int32)) rfl dX8_addPitch_59 ?_
            refine E_sub [0, 1, 2, 3, 4] rfl ?_
            exact T_X8_addPitch_60 hfl fl hr  _ _ _ _ _ _ _ _ hv0 hv0 hF
          · have hF := ite_t hF c58
            refine E_iconst (v := (2 : Int32)) rfl dX8_addPitch_55 ?_
            refine E_goto (tgt := 60) rfl dX8_addPitch_56 ?_
            refine E_sub [0, 1, 2, 3, 4] rfl ?_
            exact T_X8_addPitch_60 hfl fl hr  _ _ _ _ _ _ _ _ hv0 hv0 hF
        · have hF := ite_t hF c54
          refine E_sub [0, 1, 2, 3, 4] rfl ?_
          exact T_X8_addPitch_40 hfl fl hr  _ _ _ _ _ _ _ hv0 hv0 hF
set_option maxHeartbeats 4000000 in
set_option maxRecDepth 100000 in
theorem T_X8_loads_118 {l : Launch} (hfl : l.stackTraces = false) (fl : Nat) {r : Rs} {ρ : Mem} (hr : r = (.inr none, NF, ρ)) {k2 : Nat → Int32 → Int32 → Mem → Option Mem} (hk2 : ∀ (v0 : Nat) (v1 : Int32) (v2 : Int32) (s : Mem) (hv0 : shape v0 = some (.inl 10)), k2 v0 v1 v2 s = some ρ → E l X_X8_loads r false NF s 0 0 2 [(0, .ref v0), (1, .int v1), (2, .int v2)] []) (v0 : Nat) (v1 : Int32) (v2 : Int32) (w0 : Nat) (w1 : Int32) (w2 : Int32) (s : Mem) (hv0 : shape v0 = some (.inl 10)) (hF : B_X8_loads_118 k2 fl v0 v1 v2 w0 w1 w2 s = some ρ) : E l X_X8_loads r false NF s 0 0 118 [(0, .ref v0), (1, .int v1), (2, .int v2)] [.int w2, .int w1, .ref w0] := by
  unfold B_X8_loads_118 at hF
  obtain ⟨N1, h2, hF⟩ := bd_inv hF
  have h2 := aLen_inv h2
  obtain ⟨h3, hF⟩ := gd_inv hF
  refine E_iast _ h2 (shape_ord h2).1 h3 dX8_loads_118 ?_
  obtain ⟨m4, e5, hF⟩ := nx_inv hF
  refine E_mem e5 ?_
  refine E_iinc (q := 2) (v := (v2 + (1 : Int32))) (L' := [(2, .int (v2 + (1 : Int32))), (0, .ref v0), (1, .int v1)]) rfl rfl (Nat.le_of_ble_eq_true rfl) rfl dX8_loads_119 ?_
  refine E_goto (tgt := 2) rfl dX8_loads_122 ?_
  refine E_sub [1, 2, 0] rfl ?_
  exact hk2 _ _ _ _ hv0 hF
set_option maxHeartbeats 4000000 in
set_option maxRecDepth 100000 in
theorem T_X8_loads_98 {l : Launch} (hfl : l.stackTraces = false) (fl : Nat) {r : Rs} {ρ : Mem} (hr : r = (.inr none, NF, ρ)) {k2 : Nat → Int32 → Int32 → Mem → Option Mem} (hk2 : ∀ (v0 : Nat) (v1 : Int32) (v2 : Int32) (s : Mem) (hv0 : shape v0 = some (.inl 10)), k2 v0 v1 v2 s = some ρ → E l X_X8_loads r false NF s 0 0 2 [(0, .ref v0), (1, .int v1), (2, .int v2)] []) (v0 : Nat) (v1 : Int32) (v2 : Int32) (v3 : Int32) (w0 : Nat) (w1 : Int32) (w2 : Int32) (s : Mem) (hv0 : shape v0 = some (.inl 10)) (hF : B_X8_loads_98 k2 fl v0 v1 v2 v3 w0 w1 w2 s = some ρ) : E l X_X8_loads r false NF s 0 0 98 [(0, .ref v0), (1, .int v1), (2, .int v2), (3, .int v3)] [.int w2, .int w1, .ref w0] := by
  unfold B_X8_loads_98 at hF
  obtain ⟨N6, h7, hF⟩ := bd_inv hF
  have h7 := aLen_inv h7
  obtain ⟨h8, hF⟩ := gd_inv hF
  refine E_iast _ h7 (shape_ord h7).1 h8 dX8_loads_98 ?_
  obtain ⟨m9, e10, hF⟩ := nx_inv hF
  refine E_mem e10 ?_
  refine E_aload_n (j := 0) (i := 0) (q := 0) rfl rfl dX8_loads_99 ?_
  obtain ⟨r11, h12, hF⟩ := bd_inv hF
  have h12 := ldA_inv h12
  refine gf_RX8_22 rfl hv0 (shape_ord hv0).1 h12.1 dX8_loads_100 ?_
  refine E_iload_n (j := 2) (i := 2) (q := 2) rfl rfl dX8_loads_103 ?_
  refine E_iload_n (j := 3) (i := 3) (q := 3) rfl rfl dX8_loads_104 ?_
  refine E_if_eq (tgt := 117) rfl dX8_loads_105 (fun c13 => ?_) (fun c13 => ?_)
  · have hF := ite_t hF c13
    refine E_iconst (v := (0 : Int32)) rfl dX8_loads_117 ?_
    refine E_sub [0, 1, 2] rfl ?_
    exact T_X8_loads_118 hfl fl hr hk2 _ _ _ _ _ _ _ hv0 hF
  · have hF := ite_f hF c13
    refine E_aload_n (j := 0) (i := 0) (q := 0) rfl rfl dX8_loads_108 ?_
    refine E_iload_n (j := 2) (i := 2) (q := 2) rfl rfl dX8_loads_109 ?_
    refine E_iconst (v := (3 : Int32)) rfl dX8_loads_110 ?_
    obtain ⟨q14, h15, hF⟩ := bd_inv hF
    refine E_callV (na := 2) (As := [.int v2, .int (3 : Int32)]) (S := [.int v2, .ref r11.1]) (kc := 0) (ks := 0) (ci := 10) rfl rfl hv0 (shape_ord hv0).1 cwV_RX8_97 ⟨Nat.le_of_ble_eq_true rfl, Nat.le_of_ble_eq_true rfl⟩ (T_X8_of hfl fl _ _ _ _ hv0 _ h15) rfl rfl rfl (Nat.le_of_ble_eq_true rfl) dX8_loads_111 ?_
    refine E_goto (tgt := 118) rfl dX8_loads_114 ?_
    refine E_sub [0, 1, 2] rfl ?_
    exact T_X8_loads_118 hfl fl hr hk2 _ _ _ _ _ _ _ hv0 hF
set_option maxHeartbeats 4000000 in
set_option maxRecDepth 100000 in
theorem T_X8_loads_78 {l : Launch} (hfl : l.stackTraces = false) (fl : Nat) {r : Rs} {ρ : Mem} (hr : r = (.inr none, NF, ρ)) {k2 : Nat → Int32 → Int32 → Mem → Option Mem} (hk2 : ∀ (v0 : Nat) (v1 : Int32) (v2 : Int32) (s : Mem) (hv0 : shape v0 = some (.inl 10)), k2 v0 v1 v2 s = some ρ → E l X_X8_loads r false NF s 0 0 2 [(0, .ref v0), (1, .int v1), (2, .int v2)] []) (v0 : Nat) (v1 : Int32) (v2 : Int32) (v3 : Int32) (w0 : Nat) (w1 : Int32) (w2 : Int32) (s : Mem) (hv0 : shape v0 = some (.inl 10)) (hF : B_X8_loads_78 k2 fl v0 v1 v2 v3 w0 w1 w2 s = some ρ) : E l X_X8_loads r false NF s 0 0 78 [(0, .ref v0), (1, .int v1), (2, .int v2), (3, .int v3)] [.int w2, .int w1, .ref w0] := by
  unfold B_X8_loads_78 at hF
  obtain ⟨N16, h17, hF⟩ := bd_inv hF
  have h17 := aLen_inv h17
  obtain ⟨h18, hF⟩ := gd_inv hF
  refine E_iast _ h17 (shape_ord h17).1 h18 dX8_loads_78 ?_
  obtain ⟨m19, e20, hF⟩ := nx_inv hF
  refine E_mem e20 ?_
  refine E_aload_n (j := 0) (i := 0) (q := 0) rfl rfl dX8_loads_79 ?_
  obtain ⟨r21, h22, hF⟩ := bd_inv hF
  have h22 := ldA_inv h22
  refine gf_RX8_19 rfl hv0 (shape_ord hv0).1 h22.1 dX8_loads_80 ?_
  refine E_iload_n (j := 2) (i := 2) (q := 2) rfl rfl dX8_loads_83 ?_
  refine E_iload_n (j := 3) (i := 3) (q := 3) rfl rfl dX8_loads_84 ?_
  refine E_if_eq (tgt := 97) rfl dX8_loads_85 (fun c23 => ?_) (fun c23 => ?_)
  · have hF := ite_t hF c23
    refine E_iconst (v := (0 : Int32)) rfl dX8_loads_97 ?_
    refine E_sub [0, 1, 2, 3] rfl ?_
    exact T_X8_loads_98 hfl fl hr hk2 _ _ _ _ _ _ _ _ hv0 hF
  · have hF := ite_f hF c23
    refine E_aload_n (j := 0) (i := 0) (q := 0) rfl rfl dX8_loads_88 ?_
    refine E_iload_n (j := 2) (i := 2) (q := 2) rfl rfl dX8_loads_89 ?_
    refine E_iconst (v := (5 : Int32)) rfl dX8_loads_90 ?_
    obtain ⟨q24, h25, hF⟩ := bd_inv hF
    refine E_callV (na := 2) (As := [.int v2, .int (5 : Int32)]) (S := [.int v2, .ref r21.1]) (kc := 0) (ks := 0) (ci := 10) rfl rfl hv0 (shape_ord hv0).1 cwV_RX8_97 ⟨Nat.le_of_ble_eq_true rfl, Nat.le_of_ble_eq_true rfl⟩ (T_X8_of hfl fl _ _ _ _ hv0 _ h25) rfl rfl rfl (Nat.le_of_ble_eq_true rfl) dX8_loads_91 ?_
    refine E_goto (tgt := 98) rfl dX8_loads_94 ?_
    refine E_sub [0, 1, 2, 3] rfl ?_
    exact T_X8_loads_98 hfl fl hr hk2 _ _ _ _ _ _ _ _ hv0 hF
set_option maxHeartbeats 4000000 in
set_option maxRecDepth 100000 in
theorem T_X8_loads_58 {l : Launch} (hfl : l.stackTraces = false) (fl : Nat) {r : Rs} {ρ : Mem} (hr : r = (.inr none, NF, ρ)) {k2 : Nat → Int32 → Int32 → Mem → Option Mem} (hk2 : ∀ (v0 : Nat) (v1 : Int32) (v2 : Int32) (s : Mem) (hv0 : shape v0 = some (.inl 10)), k2 v0 v1 v2 s = some ρ → E l X_X8_loads r false NF s 0 0 2 [(0, .ref v0), (1, .int v1), (2, .int v2)] []) (v0 : Nat) (v1 : Int32) (v2 : Int32) (v3 : Int32) (w0 : Nat) (w1 : Int32) (w2 : Int32) (s : Mem) (hv0 : shape v0 = some (.inl 10)) (hF : B_X8_loads_58 k2 fl v0 v1 v2 v3 w0 w1 w2 s = some ρ) : E l X_X8_loads r false NF s 0 0 58 [(0, .ref v0), (1, .int v1), (2, .int v2), (3, .int v3)] [.int w2, .int w1, .ref w0] := by
  unfold B_X8_loads_58 at hF
  obtain ⟨N26, h27, hF⟩ := bd_inv hF
  have h27 := aLen_inv h27
  obtain ⟨h28, hF⟩ := gd_inv hF
  refine E_iast _ h27 (shape_ord h27).1 h28 dX8_loads_58 ?_
  obtain ⟨m29, e30, hF⟩ := nx_inv hF
  refine E_mem e30 ?_
  refine E_aload_n (j := 0) (i := 0) (q := 0) rfl rfl dX8_loads_59 ?_
  obtain ⟨r31, h32, hF⟩ := bd_inv hF
  have h32 := ldA_inv h32
  refine gf_RX8_16 rfl hv0 (shape_ord hv0).1 h32.1 dX8_loads_60 ?_
  refine E_iload_n (j := 2) (i := 2) (q := 2) rfl rfl dX8_loads_63 ?_
  refine E_iload_n (j := 3) (i := 3) (q := 3) rfl rfl dX8_loads_64 ?_
  refine E_if_eq (tgt := 77) rfl dX8_loads_65 (fun c33 => ?_) (fun c33 => ?_)
  · have hF := ite_t hF c33
    refine E_iconst (v := (0 : Int32)) rfl dX8_loads_77 ?_
    refine E_sub [0, 1, 2, 3] rfl ?_
    exact T_X8_loads_78 hfl fl hr hk2 _ _ _ _ _ _ _ _ hv0 hF
  · have hF := ite_f hF c33
    refine E_aload_n (j := 0) (i := 0) (q := 0) rfl rfl dX8_loads_68 ?_
    refine E_iload_n (j := 2) (i := 2) (q := 2) rfl rfl dX8_loads_69 ?_
    refine E_iconst (v := (4 : Int32)) rfl dX8_loads_70 ?_
    obtain ⟨q34, h35, hF⟩ := bd_inv hF
    refine E_callV (na := 2) (As := [.int v2, .int (4 : Int32)]) (S := [.int v2, .ref r31.1]) (kc := 0) (ks := 0) (ci := 10) rfl rfl hv0 (shape_ord hv0).1 cwV_RX8_97 ⟨Nat.le_of_ble_eq_true rfl, Nat.le_of_ble_eq_true rfl⟩ (T_X8_of hfl fl _ _ _ _ hv0 _ h35) rfl rfl rfl (Nat.le_of_ble_eq_true rfl) dX8_loads_71 ?_
    refine E_goto (tgt := 78) rfl dX8_loads_74 ?_
    refine E_sub [0, 1, 2, 3] rfl ?_
    exact T_X8_loads_78 hfl fl hr hk2 _ _ _ _ _ _ _ _ hv0 hF
set_option maxHeartbeats 4000000 in
set_option maxRecDepth 100000 in
theorem T_X8_loads_37 {l : Launch} (hfl : l.stackTraces = false) (fl : Nat) {r : Rs} {ρ : Mem} (hr : r = (.inr none, NF, ρ)) {k2 : Nat → Int32 → Int32 → Mem → Option Mem} (hk2 : ∀ (v0 : Nat) (v1 : Int32) (v2 : Int32) (s : Mem) (hv0 : shape v0 = some (.inl 10)), k2 v0 v1 v2 s = some ρ → E l X_X8_loads r false NF s 0 0 2 [(0, .ref v0), (1, .int v1), (2, .int v2)] []) (v0 : Nat) (v1 : Int32) (v2 : Int32) (w0 : Int32) (s : Mem) (hv0 : shape v0 = some (.inl 10)) (hF : B_X8_loads_37 k2 fl v0 v1 v2 w0 s = some ρ) : E l X_X8_loads r false NF s 0 0 37 [(0, .ref v0), (1, .int v1), (2, .int v2)] [.int w0] := by
  unfold B_X8_loads_37 at hF
  refine E_istore_n (j := 3) (i := 3) (L' := [(3, .int w0), (0, .ref v0), (1, .int v1), (2, .int v2)]) rfl (Nat.le_of_ble_eq_true rfl) rfl dX8_loads_37 ?_
  refine E_aload_n (j := 0) (i := 0) (q := 1) rfl rfl dX8_loads_38 ?_
  obtain ⟨r36, h37, hF⟩ := bd_inv hF
  have h37 := ldA_inv h37
  refine gf_RX8_13 rfl hv0 (shape_ord hv0).1 h37.1 dX8_loads_39 ?_
  refine E_iload_n (j := 2) (i := 2) (q := 3) rfl rfl dX8_loads_42 ?_
  refine E_iload_n (j := 3) (i := 3) (q := 0) rfl rfl dX8_loads_43 ?_
  refine E_if_eq (tgt := 57) rfl dX8_loads_44 (fun c38 => ?_) (fun c38 => ?_)
  · have hF := ite_t hF c38
    refine E_iconst (v := (-1 : Int32)) rfl dX8_loads_57 ?_
    refine E_sub [1, 2, 3, 0] rfl ?_
    exact T_X8_loads_58 hfl fl hr hk2 _ _ _ _ _ _ _ _ hv0 hF
  · have hF := ite_f hF c38
    refine E_aload_n (j := 0) (i := 0) (q := 1) rfl rfl dX8_loads_47 ?_
    refine E_iload_n (j := 2) (i := 2) (q := 3) rfl rfl dX8_loads_48 ?_
    refine E_bipush (v := (6 : Int32)) rfl dX8_loads_49 ?_
    obtain ⟨q39, h40, hF⟩ := bd_inv hF
    refine E_callV (na := 2) (As := [.int v2, .int (6 : Int32)]) (S := [.int v2, .ref r36.1]) (kc := 0) (ks := 0) (ci := 10) rfl rfl hv0 (shape_ord hv0).1 cwV_RX8_97 ⟨Nat.le_of_ble_eq_true rfl, Nat.le_of_ble_eq_true rfl⟩ (T_X8_of hfl fl _ _ _ _ hv0 _ h40) rfl rfl rfl (Nat.le_of_ble_eq_true rfl) dX8_loads_51 ?_
    refine E_goto (tgt := 58) rfl dX8_loads_54 ?_
    refine E_sub [1, 2, 3, 0] rfl ?_
    exact T_X8_loads_58 hfl fl hr hk2 _ _ _ _ _ _ _ _ hv0 hF
set_option maxHeartbeats 4000000 in
set_option maxRecDepth 100000 in
theorem T_X8_loads_36 {l : Launch} (hfl : l.stackTraces = false) (fl : Nat) {r : Rs} {ρ : Mem} (hr : r = (.inr none, NF, ρ)) {k2 : Nat → Int32 → Int32 → Mem → Option Mem} (hk2 : ∀ (v0 : Nat) (v1 : Int32) (v2 : Int32) (s : Mem) (hv0 : shape v0 = some (.inl 10)), k2 v0 v1 v2 s = some ρ → E l X_X8_loads r false NF s 0 0 2 [(0, .ref v0), (1, .int v1), (2, .int v2)] []) (v0 : Nat) (v1 : Int32) (v2 : Int32) (s : Mem) (hv0 : shape v0 = some (.inl 10)) (hF : B_X8_loads_36 k2 fl v0 v1 v2 s = some ρ) : E l X_X8_loads r false NF s 0 0 36 [(0, .ref v0), (1, .int v1), (2, .int v2)] [] := by
  unfold B_X8_loads_36 at hF
  refine E_iconst (v := (0 : Int32)) rfl dX8_loads_36 ?_
  refine E_sub [0, 1, 2] rfl ?_
  exact T_X8_loads_37 hfl fl hr hk2 _ _ _ _ _ hv0 hF
set_option maxHeartbeats 4000000 in
set_option maxRecDepth 100000 in
theorem T_X8_loads_2 {l : Launch} (hfl : l.stackTraces = false) (fl : Nat) {r : Rs} {ρ : Mem} (hr : r = (.inr none, NF, ρ)) : ∀ (n : Nat) (v0 : Nat) (v1 : Int32) (v2 : Int32) (s : Mem) (hv0 : shape v0 = some (.inl 10)), B_X8_loads_2 fl n v0 v1 v2 s = some ρ → E l X_X8_loads r false NF s 0 0 2 [(0, .ref v0), (1, .int v1), (2, .int v2)] [] := by
  intro n
  induction n with
  | zero =>
    intro v0 v1 v2 s hv0 hF
    cases hF
  | succ n ih =>
    intro v0 v1 v2 s hv0 hF
    refine E_iload_n (j := 2) (i := 2) (q := 2) rfl rfl dX8_loads_2 ?_
    refine E_bipush (v := (12 : Int32)) rfl dX8_loads_3 ?_
    refine E_icmp_gt (tgt := 125) rfl dX8_loads_5 (fun c41 => ?_) (fun c41 => ?_)
    · have hF := ite_t hF c41
      exact E_vret (Or.inl rfl) rfl (by cases hF; exact hr) dX8_loads_125
    · have hF := ite_f hF c41
      refine E_aload_n (j := 0) (i := 0) (q := 0) rfl rfl dX8_loads_8 ?_
      refine E_iload_n (j := 2) (i := 2) (q := 2) rfl rfl dX8_loads_9 ?_
      obtain ⟨q42, h43, hF⟩ := bd_inv hF
      refine E_callV (na := 1) (As := [.int v2]) (S := []) (kc := 0) (ks := 0) (ci := 10) rfl rfl hv0 (shape_ord hv0).1 cwV_RX8_94 ⟨Nat.le_of_ble_eq_true rfl, Nat.le_of_ble_eq_true rfl⟩ (T_X8_isParty hfl fl _ _ _ hv0 _ h43) rfl rfl rfl (Nat.le_of_ble_eq_true rfl) dX8_loads_10 ?_
      refine E_if_eq (tgt := 36) rfl dX8_loads_13 (fun c44 => ?_) (fun c44 => ?_)
      · have hF := ite_t hF c44
        refine E_sub [0, 1, 2] rfl ?_
        exact T_X8_loads_36 hfl fl hr ih _ _ _ _ hv0 hF
      · have hF := ite_f hF c44
        refine E_aload_n (j := 0) (i := 0) (q := 0) rfl rfl dX8_loads_16 ?_
        refine E_iload_n (j := 2) (i := 2) (q := 2) rfl rfl dX8_loads_17 ?_
        refine E_bipush (v := (8 : Int32)) rfl dX8_loads_18 ?_
        obtain ⟨q45, h46, hF⟩ := bd_inv hF
        refine E_callV (na := 2) (As := [.int v2, .int (8 : Int32)]) (S := []) (kc := 0) (ks := 0) (ci := 10) rfl rfl hv0 (shape_ord hv0).1 cwV_RX8_97 ⟨Nat.le_of_ble_eq_true rfl, Nat.le_of_ble_eq_true rfl⟩ (T_X8_of hfl fl _ _ _ _ hv0 _ h46) rfl rfl rfl (Nat.le_of_ble_eq_true rfl) dX8_loads_20 ?_
        refine E_iconst (v := (1 : Int32)) rfl dX8_loads_23 ?_
        refine E_icmp_ne (tgt := 36) rfl dX8_loads_24 (fun c47 => ?_) (fun c47 => ?_)
        · have hF := ite_f hF c47
          refine E_sub [0, 1, 2] rfl ?_
          exact T_X8_loads_36 hfl fl hr ih _ _ _ _ hv0 hF
        · have hF := ite_t hF c47
          refine E_iload_n (j := 2) (i := 2) (q := 2) rfl rfl dX8_loads_27 ?_
          refine E_iload_n (j := 1) (i := 1) (q := 1) rfl rfl dX8_loads_28 ?_
          refine E_icmp_eq (tgt := 36) rfl dX8_loads_29 (fun c48 => ?_) (fun c48 => ?_)
          · have hF := ite_t hF c48
            refine E_sub [0, 1, 2] rfl ?_
            exact T_X8_loads_36 hfl fl hr ih _ _ _ _ hv0 hF
          · have hF := ite_f hF c48
            refine E_iconst (v := (1 : Int32)) rfl dX8_loads_32 ?_
            refine E_goto (tgt := 37) rfl dX8_loads_33 ?_
            refine E_sub [0, 1, 2] rfl ?_
            exact T_X8_loads_37 hfl fl hr ih _ _ _ _ _ hv0 hF
set_option maxHeartbeats 4000000 in
set_option maxRecDepth 100000 in
theorem T_X8_loads {l : Launch} (hfl : l.stackTraces = false) (fl : Nat) (v0 : Nat) (v1 : Int32) (s : Mem) (hv0 : shape v0 = some (.inl 10)) (ρ : Mem) (hF : F_X8_loads fl v0 v1 s = some ρ) : MetN l X_X8_loads false NF s [.ref v0, .int v1] (.inr none, NF, ρ) := by
  unfold F_X8_loads at hF
  obtain ⟨r, hr⟩ : ∃ r : Rs, r = (.inr none, NF, ρ) := ⟨_, rfl⟩
  rw [← hr]
  refine met_of_E rfl rfl (by decide +kernel) hfl rfl (Nat.le_of_ble_eq_true rfl) ?_
  show E l X_X8_loads r false NF s 0 0 0 [(0, .ref v0), (1, .int v1)] []
  refine E_iconst (v := (0 : Int32)) rfl dX8_loads_0 ?_
  refine E_istore_n (j := 2) (i := 2) (L' := [(2, .int (0 : Int32)), (0, .ref v0), (1, .int v1)]) rfl (Nat.le_of_ble_eq_true rfl) rfl dX8_loads_1 ?_
  refine E_sub [1, 2, 0] rfl ?_
  exact T_X8_loads_2 hfl fl hr  fl _ _ _ _ hv0 hF
set_option maxHeartbeats 4000000 in
set_option maxRecDepth 100000 in
theorem T_X8_mask {l : Launch} (hfl : l.stackTraces = false) (fl : Nat) (v0 : Int32) (v1 : Int32) (s : Mem) (ρ : Int64) (hF : F_X8_mask fl v0 v1 s = some ρ) : MetN l X_X8_mask false NF s [.int v0, .int v1] (.inr (some (.long ρ)), NF, s) := by
  unfold F_X8_mask at hF
  obtain ⟨r, hr⟩ : ∃ r : Rs, r = (.inr (some (.long ρ)), NF, s) := ⟨_, rfl⟩
  rw [← hr]
  refine met_of_E rfl rfl (by decide +kernel) hfl rfl (Nat.le_of_ble_eq_true rfl) ?_
  show E l X_X8_mask r false NF s 0 0 0 [(0, .int v0), (1, .int v1)] []
  refine E_lconst (v := (1 : Int64)) rfl dX8_mask_0 ?_
  refine E_iload_n (j := 1) (i := 1) (q := 1) rfl rfl dX8_mask_1 ?_
  refine E_lshl dX8_mask_2 ?_
  refine E_lconst (v := (1 : Int64)) rfl dX8_mask_3 ?_
  refine E_lsub dX8_mask_4 ?_
  refine E_iload_n (j := 0) (i := 0) (q := 0) rfl rfl dX8_mask_5 ?_
  refine E_lshl dX8_mask_6 ?_
  exact E_lret (Or.inl rfl) rfl (by cases hF; exact hr) dX8_mask_7
set_option maxHeartbeats 4000000 in
set_option maxRecDepth 100000 in
theorem T_X8_maskOf__51 {l : Launch} (hfl : l.stackTraces = false) (fl : Nat) {r : Rs} {ρ : Int64} {s : Mem} (hr : r = (.inr (some (.long ρ)), NF, s)) {k5 : Nat → Int32 → Int32 → Int64 → Int32 → Option Int64} (hk5 : ∀ (v0 : Nat) (v1 : Int32) (v2 : Int32) (v3 : Int64) (v5 : Int32) (hv0 : shape v0 = some (.inl 10)), k5 v0 v1 v2 v3 v5 = some ρ → E l X_X8_maskOf_ r false NF s 0 0 5 [(0, .ref v0), (1, .int v1), (2, .int v2), (3, .long v3), (5, .int v5)] []) (v0 : Nat) (v1 : Int32) (v2 : Int32) (v5 : Int32) (w0 : Int64) (w1 : Int64) (hv0 : shape v0 = some (.inl 10)) (hF : B_X8_maskOf__51 k5 fl s v0 v1 v2 v5 w0 w1 = some ρ) : E l X_X8_maskOf_ r false NF s 0 0 51 [(0, .ref v0), (1, .int v1), (2, .int v2), (5, .int v5)] [.long w1, .long w0] := by
  unfold B_X8_maskOf__51 at hF
  refine E_lor dX8_maskOf__51 ?_
  refine E_lstore_n (j := 3) (i := 3) (L' := [(3, .long (w0 ||| w1)), (0, .ref v0), (1, .int v1), (2, .int v2), (5, .int v5)]) rfl (Nat.le_of_ble_eq_true rfl) rfl dX8_maskOf__52 ?_
  refine E_iinc (q := 4) (v := (v5 + (1 : Int32))) (L' := [(5, .int (v5 + (1 : Int32))), (3, .long (w0 ||| w1)), (0, .ref v0), (1, .int v1), (2, .int v2)]) rfl rfl (Nat.le_of_ble_eq_true rfl) rfl dX8_maskOf__53 ?_
  refine E_goto (tgt := 5) rfl dX8_maskOf__56 ?_
  refine E_sub [2, 3, 4, 1, 0] rfl ?_
  exact hk5 _ _ _ _ _ hv0 hF
set_option maxHeartbeats 4000000 in
set_option maxRecDepth 100000 in
theorem T_X8_maskOf__50 {l : Launch} (hfl : l.stackTraces = false) (fl : Nat) {r : Rs} {ρ : Int64} {s : Mem} (hr : r = (.inr (some (.long ρ)), NF, s)) {k5 : Nat → Int32 → Int32 → Int64 → Int32 → Option Int64} (hk5 : ∀ (v0 : Nat) (v1 : Int32) (v2 : Int32) (v3 : Int64) (v5 : Int32) (hv0 : shape v0 = some (.inl 10)), k5 v0 v1 v2 v3 v5 = some ρ → E l X_X8_maskOf_ r false NF s 0 0 5 [(0, .ref v0), (1, .int v1), (2, .int v2), (3, .long v3), (5, .int v5)] []) (v0 : Nat) (v1 : Int32) (v2 : Int32) (v5 : Int32) (w0 : Int64) (hv0 : shape v0 = some (.inl 10)) (hF : B_X8_maskOf__50 k5 fl s v0 v1 v2 v5 w0 = some ρ) : E l X_X8_maskOf_ r false NF s 0 0 50 [(0, .ref v0), (1, .int v1), (2, .int v2), (5, .int v5)] [.long w0] := by
  unfold B_X8_maskOf__50 at hF
  refine E_lconst (v := (0 : Int64)) rfl dX8_maskOf__50 ?_
  refine E_sub [0, 1, 2, 3] rfl ?_
  exact T_X8_maskOf__51 hfl fl hr hk5 _ _ _ _ _ _ hv0 hF
set_option maxHeartbeats 4000000 in
set_option maxRecDepth 100000 in
theorem T_X8_maskOf__5 {l : Launch} (hfl : l.stackTraces = false) (fl : Nat) {r : Rs} {ρ : Int64} {s : Mem} (hr : r = (.inr (some (.long ρ)), NF, s)) : ∀ (n : Nat) (v0 : Nat) (v1 : Int32) (v2 : Int32) (v3 : Int64) (v5 : Int32) (hv0 : shape v0 = some (.inl 10)), B_X8_maskOf__5 fl s n v0 v1 v2 v3 v5 = some ρ → E l X_X8_maskOf_ r false NF s 0 0 5 [(0, .ref v0), (1, .int v1), (2, .int v2), (3, .long v3), (5, .int v5)] [] := by
  intro n
  induction n with
  | zero =>
    intro v0 v1 v2 v3 v5 hv0 hF
    cases hF
  | succ n ih =>
    intro v0 v1 v2 v3 v5 hv0 hF
    refine E_iload (q := 4) rfl dX8_maskOf__5 ?_
    refine E_bipush (v := (12 : Int32)) rfl dX8_maskOf__7 ?_
    refine E_icmp_gt (tgt := 59) rfl dX8_maskOf__9 (fun c1 => ?_) (fun c1 => ?_)
    · have hF := ite_t hF c1
      refine E_lload_n (j := 3) (i := 3) (q := 3) rfl rfl dX8_maskOf__59 ?_
      exact E_lret (Or.inl rfl) rfl (by cases hF; exact hr) dX8_maskOf__60
    · have hF := ite_f hF c1
      refine E_lload_n (j := 3) (i := 3) (q := 3) rfl rfl dX8_maskOf__12 ?_
      refine E_aload_n (j := 0) (i := 0) (q := 0) rfl rfl dX8_maskOf__13 ?_
      obtain ⟨r2, h3, hF⟩ := bd_inv hF
      have h3 := ldA_inv h3
      refine gf_RX8_13 rfl hv0 (shape_ord hv0).1 h3.1 dX8_maskOf__14 ?_
      refine E_iload (q := 4) rfl dX8_maskOf__17 ?_
      obtain ⟨h4, hF⟩ := gd_inv hF
      refine E_iald _ h3.2 (shape_ord h3.2).1 h4 dX8_maskOf__19 ?_
      refine E_iload_n (j := 1) (i := 1) (q := 1) rfl rfl dX8_maskOf__20 ?_
      refine E_icmp_ne (tgt := 50) rfl dX8_maskOf__21 (fun c5 => ?_) (fun c5 => ?_)
      · have hF := ite_f hF c5
        refine E_sub [0, 1, 2, 4] rfl ?_
        exact T_X8_maskOf__50 hfl fl hr ih _ _ _ _ _ hv0 hF
      · have hF := ite_t hF c5
        refine E_iload (q := 4) rfl dX8_maskOf__24 ?_
        refine E_iload_n (j := 2) (i := 2) (q := 2) rfl rfl dX8_maskOf__26 ?_
        refine E_icmp_eq (tgt := 50) rfl dX8_maskOf__27 (fun c6 => ?_) (fun c6 => ?_)
        · have hF := ite_t hF c6
          refine E_sub [0, 1, 2, 4] rfl ?_
          exact T_X8_maskOf__50 hfl fl hr ih _ _ _ _ _ hv0 hF
        · have hF := ite_f hF c6
          refine E_aload_n (j := 0) (i := 0) (q := 0) rfl rfl dX8_maskOf__30 ?_
          obtain ⟨r7, h8, hF⟩ := bd_inv hF
          have h8 := ldA_inv h8
          refine gf_RX8_16 rfl hv0 (shape_ord hv0).1 h8.1 dX8_maskOf__31 ?_
          refine E_iload (q := 4) rfl dX8_maskOf__34 ?_
          obtain ⟨h9, hF⟩ := gd_inv hF
          refine E_iald _ h8.2 (shape_ord h8.2).1 h9 dX8_maskOf__36 ?_
          refine E_aload_n (j := 0) (i := 0) (q := 0) rfl rfl dX8_maskOf__37 ?_
          obtain ⟨r10, h11, hF⟩ := bd_inv hF
          have h11 := ldA_inv h11
          refine gf_RX8_19 rfl hv0 (shape_ord hv0).1 h11.1 dX8_maskOf__38 ?_
          refine E_iload (q := 4) rfl dX8_maskOf__41 ?_
          obtain ⟨h12, hF⟩ := gd_inv hF
          refine E_iald _ h11.2 (shape_ord h11.2).1 h12 dX8_maskOf__43 ?_
          obtain ⟨q13, h14, hF⟩ := bd_inv hF
          refine E_callS (na := 2) (As := [.int (gI s r7.1 v5.toNatClampNeg), .int (gI s r10.1 v5.toNatClampNeg)]) (S := [.long v3]) (kc := 0) (ks := 0) cwS_RX8_103 ⟨Nat.le_of_ble_eq_true rfl, Nat.le_of_ble_eq_true rfl⟩ (T_X8_mask hfl fl _ _ _  _ h14) rfl rfl rfl (Nat.le_of_ble_eq_true rfl) dX8_maskOf__44 ?_
          refine E_goto (tgt := 51) rfl dX8_maskOf__47 ?_
          refine E_sub [0, 1, 2, 4] rfl ?_
          exact T_X8_maskOf__51 hfl fl hr ih _ _ _ _ _ _ hv0 hF
set_option maxHeartbeats 4000000 in
set_option maxRecDepth 100000 in
theorem T_X8_maskOf_ {l : Launch} (hfl : l.stackTraces = false) (fl : Nat) (v0 : Nat) (v1 : Int32) (v2 : Int32) (s : Mem) (hv0 : shape v0 = some (.inl 10)) (ρ : Int64) (hF : F_X8_maskOf_ fl v0 v1 v2 s = some ρ) : MetN l X_X8_maskOf_ false NF s [.ref v0, .int v1, .int v2] (.inr (some (.long ρ)), NF, s) := by
  unfold F_X8_maskOf_ at hF
  obtain ⟨r, hr⟩ : ∃ r : Rs, r = (.inr (some (.long ρ)), NF, s) := ⟨_, rfl⟩
  rw [← hr]
  refine met_of_E rfl rfl (by decide +kernel) hfl rfl (Nat.le_of_ble_eq_true rfl) ?_
  show E l X_X8_maskOf_ r false NF s 0 0 0 [(0, .ref v0), (1, .int v1), (2, .int v2)] []
  refine E_lconst (v := (0 : Int64)) rfl dX8_maskOf__0 ?_
  refine E_lstore_n (j := 3) (i := 3) (L' := [(3, .long (0 : Int64)), (0, .ref v0), (1, .int v1), (2, .int v2)]) rfl (Nat.le_of_ble_eq_true rfl) rfl dX8_maskOf__1 ?_
  refine E_iconst (v := (0 : Int32)) rfl dX8_maskOf__2 ?_
  refine E_istore (L' := [(5, .int (0 : Int32)), (3, .long (0 : Int64)), (0, .ref v0), (1, .int v1), (2, .int v2)]) (Nat.le_of_ble_eq_true rfl) rfl dX8_maskOf__3 ?_
  refine E_sub [2, 3, 4, 1, 0] rfl ?_
  exact T_X8_maskOf__5 hfl fl hr  fl _ _ _ _ _ hv0 hF
set_option maxHeartbeats 4000000 in
set_option maxRecDepth 100000 in
theorem T_X8_maskOf {l : Launch} (hfl : l.stackTraces = false) (fl : Nat) (v0 : Nat) (v1 : Int32) (s : Mem) (hv0 : shape v0 = some (.inl 10)) (ρ : Int64) (hF : F_X8_maskOf fl v0 v1 s = some ρ) : MetN l X_X8_maskOf false NF s [.ref v0, .int v1] (.inr (some (.long ρ)), NF, s) := by
  unfold F_X8_maskOf at hF
  obtain ⟨r, hr⟩ : ∃ r : Rs, r = (.inr (some (.long ρ)), NF, s) := ⟨_, rfl⟩
  rw [← hr]
  refine met_of_E rfl rfl (by decide +kernel) hfl rfl (Nat.le_of_ble_eq_true rfl) ?_
  show E l X_X8_maskOf r false NF s 0 0 0 [(0, .ref v0), (1, .int v1)] []
  refine E_aload_n (j := 0) (i := 0) (q := 0) rfl rfl dX8_maskOf_0 ?_
  refine E_iload_n (j := 1) (i := 1) (q := 1) rfl rfl dX8_maskOf_1 ?_
  refine E_iconst (v := (-1 : Int32)) rfl dX8_maskOf_2 ?_
  obtain ⟨q1, h2, hF⟩ := bd_inv hF
  refine E_callV (na := 2) (As := [.int v1, .int (-1 : Int32)]) (S := []) (kc := 0) (ks := 0) (ci := 10) rfl rfl hv0 (shape_ord hv0).1 cwV_RX8_100 ⟨Nat.le_of_ble_eq_true rfl, Nat.le_of_ble_eq_true rfl⟩ (T_X8_maskOf_ hfl fl _ _ _ _ hv0 _ h2) rfl rfl rfl (Nat.le_of_ble_eq_true rfl) dX8_maskOf_3 ?_
  exact E_lret (Or.inl rfl) rfl (by cases hF; exact hr) dX8_maskOf_6
set_option maxHeartbeats 4000000 in
set_option maxRecDepth 100000 in
theorem T_X8_bits_4 {l : Launch} (hfl : l.stackTraces = false) (fl : Nat) {r : Rs} {ρ : Int32} {s : Mem} (hr : r = (.inr (some (.int ρ)), NF, s)) : ∀ (n : Nat) (v0 : Int64) (v2 : Int32) (v3 : Int32), B_X8_bits_4 fl s n v0 v2 v3 = some ρ → E l X_X8_bits r false NF s 0 0 4 [(0, .long v0), (2, .int v2), (3, .int v3)] [] := by
  intro n
  induction n with
  | zero =>
    intro v0 v2 v3  hF
    cases hF
  | succ n ih =>
    intro v0 v2 v3  hF
    refine E_iload_n (j := 3) (i := 3) (q := 2) rfl rfl dX8_bits_4 ?_
    refine E_bipush (v := (60 : Int32)) rfl dX8_bits_5 ?_
    refine E_icmp_ge (tgt := 25) rfl dX8_bits_7 (fun c1 => ?_) (fun c1 => ?_)
    · have hF := ite_t hF c1
      refine E_iload_n (j := 2) (i := 2) (q := 1) rfl rfl dX8_bits_25 ?_
      exact E_iret (Or.inl rfl) rfl (by cases hF; exact hr) dX8_bits_26
    · have hF := ite_f hF c1
      refine E_iload_n (j := 2) (i := 2) (q := 1) rfl rfl dX8_bits_10 ?_
      refine E_lload_n (j := 0) (i := 0) (q := 0) rfl rfl dX8_bits_11 ?_
      refine E_iload_n (j := 3) (i := 3) (q := 2) rfl rfl dX8_bits_12 ?_
      refine E_lshr dX8_bits_13 ?_
      refine E_lconst (v := (1 : Int64)) rfl dX8_bits_14 ?_
      refine E_land dX8_bits_15 ?_
      refine E_l2i dX8_bits_16 ?_
      refine E_iadd dX8_bits_17 ?_
      refine E_istore_n (j := 2) (i := 2) (L' := [(2, .int (v2 + (Int64.toInt32 ((v0 >>> (Int32.toInt64 v3 &&& 63)) &&& (1 : Int64))))), (0, .long v0), (3, .int v3)]) rfl (Nat.le_of_ble_eq_true rfl) rfl dX8_bits_18 ?_
      refine E_iinc (q := 2) (v := (v3 + (1 : Int32))) (L' := [(3, .int (v3 + (1 : Int32))), (2, .int (v2 + (Int64.toInt32 ((v0 >>> (Int32.toInt64 v3 &&& 63)) &&& (1 : Int64))))), (0, .long v0)]) rfl rfl (Nat.le_of_ble_eq_true rfl) rfl dX8_bits_19 ?_
      refine E_goto (tgt := 4) rfl dX8_bits_22 ?_
      refine E_sub [2, 1, 0] rfl ?_
      exact ih _ _ _  hF
set_option maxHeartbeats 4000000 in
set_option maxRecDepth 100000 in
theorem T_X8_bits {l : Launch} (hfl : l.stackTraces = false) (fl : Nat) (v0 : Int64) (s : Mem) (ρ : Int32) (hF : F_X8_bits fl v0 s = some ρ) : MetN l X_X8_bits false NF s [.long v0] (.inr (some (.int ρ)), NF, s) := by
  unfold F_X8_bits at hF
  obtain ⟨r, hr⟩ : ∃ r : Rs, r = (.inr (some (.int ρ)), NF, s) := ⟨_, rfl⟩
  rw [← hr]
  refine met_of_E rfl rfl (by decide +kernel) hfl rfl (Nat.le_of_ble_eq_true rfl) ?_
  show E l X_X8_bits r false NF s 0 0 0 [(0, .long v0)] []
  refine E_iconst (v := (0 : Int32)) rfl dX8_bits_0 ?_
  refine E_istore_n (j := 2) (i := 2) (L' := [(2, .int (0 : Int32)), (0, .long v0)]) rfl (Nat.le_of_ble_eq_true rfl) rfl dX8_bits_1 ?_
  refine E_iconst (v := (0 : Int32)) rfl dX8_bits_2 ?_
  refine E_istore_n (j := 3) (i := 3) (L' := [(3, .int (0 : Int32)), (2, .int (0 : Int32)), (0, .long v0)]) rfl (Nat.le_of_ble_eq_true rfl) rfl dX8_bits_3 ?_
  refine E_sub [2, 1, 0] rfl ?_
  exact T_X8_bits_4 hfl fl hr  fl _ _ _  hF
