set_option maxHeartbeats 4000000 in
set_option maxRecDepth 100000 in
theorem T_L_refusal {l : Launch} (hfl : l.stackTraces = false) (fl : Nat) (v0 : Nat) (v1 : Nat) (s : Mem) (hv0 : shape v0 = some (.inl 9)) (ρ : (Int32 × Mem)) (hF : F_L_refusal fl v0 v1 s = some ρ) : MetX l X_L_refusal NF s [.ref v0, .ref v1] (.inr (some (.int ρ.1)), NF, ρ.2) := by
  unfold F_L_refusal at hF
  obtain ⟨r, hr⟩ : ∃ r : Rs, r = (.inr (some (.int ρ.1)), NF, ρ.2) := ⟨_, rfl⟩
  rw [← hr]
  refine metH_of_E rfl (by decide) (by decide +kernel) hfl rfl (Nat.le_of_ble_eq_true rfl) ?_
  show E l X_L_refusal r false NF s 1 6 0 [(0, .ref v0), (1, .ref v1)] []
  refine E_aload_n (j := 1) (i := 1) (q := 1) rfl rfl dL_refusal_0 ?_
  refine E_iconst (v := (0 : Int32)) rfl dL_refusal_1 ?_
  refine E_aload_n (j := 0) (i := 0) (q := 0) rfl rfl dL_refusal_2 ?_
  obtain ⟨q1, h2, hF⟩ := bd_inv hF
  have hM6 := T_X7_refusal hfl fl _ _ hv0 _ h2
  rcases xc_inv hF with ⟨e7, h5, hF⟩ | ⟨x3, h5, hF⟩
  · rw [h5] at hM6
    by_cases c11 : e7 = 6
    · have hF := ite_t hF c11
      subst c11
      refine E_callVX_c_n (i9 := 2) (na := 0) (As := []) (S := [.int (0 : Int32), .ref v1]) (kc := 0) (ks := 0) (ci := 9) rfl rfl hv0 (shape_ord hv0).1 cwV_RL_60 [] (0, 8, 11, 63) [] rfl ⟨Nat.le_of_ble_eq_true rfl, Nat.le_of_ble_eq_true rfl⟩ (by decide) wT552 wN8 (by intro z9 hz9; cases hz9) (j9 := 2) rfl (Nat.le_of_ble_eq_true rfl) ⟨Nat.le_of_ble_eq_true rfl, Nat.le_of_ble_eq_true rfl⟩ hM6 rfl rfl (Nat.le_of_ble_eq_true rfl) dL_refusal_3 dL_refusal_11 ?_
      refine E_iconst (v := (1 : Int32)) rfl dL_refusal_12 ?_
      exact E_iret (Or.inr ⟨rfl, rfl⟩) rfl (by cases hF; exact hr) dL_refusal_13
    · have hF := ite_f hF c11
      cases hF
  · rw [h5] at hM6
    generalize q1.2 = s4 at hF hM6
    refine E_callVX (na := 0) (As := []) (S := [.int (0 : Int32), .ref v1]) (kc := 0) (ks := 0) (ci := 9) rfl rfl hv0 (shape_ord hv0).1 cwV_RL_60 ⟨Nat.le_of_ble_eq_true rfl, Nat.le_of_ble_eq_true rfl⟩ hM6 rfl rfl rfl (Nat.le_of_ble_eq_true rfl) dL_refusal_3 ?_
    refine E_i2l dL_refusal_6 ?_
    obtain ⟨N8, h9, hF⟩ := bd_inv hF
    have h9 := aLen_inv h9
    obtain ⟨h10, hF⟩ := gd_inv hF
    refine E_last _ h9 (shape_ord h9).1 h10 dL_refusal_7 ?_
    refine E_goto (tgt := 14) rfl dL_refusal_8 ?_
    refine E_iconst (v := (0 : Int32)) rfl dL_refusal_14 ?_
    exact E_iret (Or.inr ⟨rfl, rfl⟩) rfl (by cases hF; exact hr) dL_refusal_15
set_option maxHeartbeats 4000000 in
set_option maxRecDepth 100000 in
theorem T_L_party {l : Launch} (hfl : l.stackTraces = false) (fl : Nat) (v0 : Nat) (v1 : Int32) (v2 : Int32) (v3 : Nat) (s : Mem) (hv0 : shape v0 = some (.inl 9)) (ρ : (Int32 × Mem)) (hF : F_L_party fl v0 v1 v2 v3 s = some ρ) : MetX l X_L_party NF s [.ref v0, .int v1, .int v2, .ref v3] (.inr (some (.int ρ.1)), NF, ρ.2) := by
  unfold F_L_party at hF
  obtain ⟨r, hr⟩ : ∃ r : Rs, r = (.inr (some (.int ρ.1)), NF, ρ.2) := ⟨_, rfl⟩
  rw [← hr]
  refine metH_of_E rfl (by decide) (by decide +kernel) hfl rfl (Nat.le_of_ble_eq_true rfl) ?_
  show E l X_L_party r false NF s 2 12 0 [(0, .ref v0), (1, .int v1), (2, .int v2), (3, .ref v3)] []
  refine E_aload_n (j := 3) (i := 3) (q := 3) rfl rfl dL_party_0 ?_
  refine E_iconst (v := (0 : Int32)) rfl dL_party_1 ?_
  refine E_aload_n (j := 0) (i := 0) (q := 0) rfl rfl dL_party_2 ?_
  refine E_iload_n (j := 1) (i := 1) (q := 1) rfl rfl dL_party_3 ?_
  refine E_iload_n (j := 2) (i := 2) (q := 2) rfl rfl dL_party_4 ?_
  obtain ⟨q1, h2, hF⟩ := bd_inv hF
  have hM6 := T_X7_party hfl fl _ _ _ _ hv0 _ h2
  rcases xc_inv hF with ⟨e7, h5, hF⟩ | ⟨x3, h5, hF⟩
  · rw [h5] at hM6
    by_cases c11 : e7 = 3
    · have hF := ite_t hF c11
      subst c11
      refine E_callVX_c (i9 := 4) (na := 2) (As := [.int v1, .int v2]) (S := [.int (0 : Int32), .ref v3]) (kc := 0) (ks := 0) (ci := 9) rfl rfl hv0 (shape_ord hv0).1 cwV_RL_65 [] (0, 10, 13, 21) [(0, 10, 17, 13)] rfl ⟨Nat.le_of_ble_eq_true rfl, Nat.le_of_ble_eq_true rfl⟩ (by decide) wT509 wN6 (by intro z9 hz9; cases hz9) (Nat.le_of_ble_eq_true rfl) ⟨Nat.le_of_ble_eq_true rfl, Nat.le_of_ble_eq_true rfl⟩ hM6 rfl rfl (Nat.le_of_ble_eq_true rfl) dL_party_5 dL_party_13 ?_
      refine E_iconst (v := (1 : Int32)) rfl dL_party_15 ?_
      exact E_iret (Or.inr ⟨rfl, rfl⟩) rfl (by cases hF; exact hr) dL_party_16
    · have hF := ite_f hF c11
      by_cases c12 : e7 = 1
      · have hF := ite_t hF c12
        subst c12
        refine E_callVX_c (i9 := 4) (na := 2) (As := [.int v1, .int v2]) (S := [.int (0 : Int32), .ref v3]) (kc := 0) (ks := 0) (ci := 9) rfl rfl hv0 (shape_ord hv0).1 cwV_RL_65 [(0, 10, 13, 21)] (0, 10, 17, 13) [] rfl ⟨Nat.le_of_ble_eq_true rfl, Nat.le_of_ble_eq_true rfl⟩ (by decide) wT503 wN4 (by intro z9 hz9; simp only [List.mem_cons, List.not_mem_nil, or_false] at hz9; rcases hz9 with rfl <;> first | exact ⟨by decide, _, wT509, by decide +kernel⟩) (Nat.le_of_ble_eq_true rfl) ⟨Nat.le_of_ble_eq_true rfl, Nat.le_of_ble_eq_true rfl⟩ hM6 rfl rfl (Nat.le_of_ble_eq_true rfl) dL_party_5 dL_party_17 ?_
        refine E_iconst (v := (2 : Int32)) rfl dL_party_19 ?_
        exact E_iret (Or.inr ⟨rfl, rfl⟩) rfl (by cases hF; exact hr) dL_party_20
      · have hF := ite_f hF c12
        cases hF
  · rw [h5] at hM6
    generalize q1.2 = s4 at hF hM6
    refine E_callVX (na := 2) (As := [.int v1, .int v2]) (S := [.int (0 : Int32), .ref v3]) (kc := 0) (ks := 0) (ci := 9) rfl rfl hv0 (shape_ord hv0).1 cwV_RL_65 ⟨Nat.le_of_ble_eq_true rfl, Nat.le_of_ble_eq_true rfl⟩ hM6 rfl rfl rfl (Nat.le_of_ble_eq_true rfl) dL_party_5 ?_
    refine E_i2l dL_party_8 ?_
    obtain ⟨N8, h9, hF⟩ := bd_inv hF
    have h9 := aLen_inv h9
    obtain ⟨h10, hF⟩ := gd_inv hF
    refine E_last _ h9 (shape_ord h9).1 h10 dL_party_9 ?_
    refine E_goto (tgt := 21) rfl dL_party_10 ?_
    refine E_iconst (v := (0 : Int32)) rfl dL_party_21 ?_
    exact E_iret (Or.inr ⟨rfl, rfl⟩) rfl (by cases hF; exact hr) dL_party_22
set_option maxHeartbeats 4000000 in
set_option maxRecDepth 100000 in
theorem T_L_moveOf {l : Launch} (hfl : l.stackTraces = false) (fl : Nat) (v0 : Nat) (v1 : Int32) (v2 : Int32) (v3 : Nat) (s : Mem) (hv0 : shape v0 = some (.inl 9)) (ρ : (Int32 × Mem)) (hF : F_L_moveOf fl v0 v1 v2 v3 s = some ρ) : MetX l X_L_moveOf NF s [.ref v0, .int v1, .int v2, .ref v3] (.inr (some (.int ρ.1)), NF, ρ.2) := by
  unfold F_L_moveOf at hF
  obtain ⟨r, hr⟩ : ∃ r : Rs, r = (.inr (some (.int ρ.1)), NF, ρ.2) := ⟨_, rfl⟩
  rw [← hr]
  refine metH_of_E rfl (by decide) (by decide +kernel) hfl rfl (Nat.le_of_ble_eq_true rfl) ?_
  show E l X_L_moveOf r false NF s 1 6 0 [(0, .ref v0), (1, .int v1), (2, .int v2), (3, .ref v3)] []
  refine E_aload_n (j := 3) (i := 3) (q := 3) rfl rfl dL_moveOf_0 ?_
  refine E_iconst (v := (0 : Int32)) rfl dL_moveOf_1 ?_
  refine E_aload_n (j := 0) (i := 0) (q := 0) rfl rfl dL_moveOf_2 ?_
  refine E_iload_n (j := 1) (i := 1) (q := 1) rfl rfl dL_moveOf_3 ?_
  refine E_iload_n (j := 2) (i := 2) (q := 2) rfl rfl dL_moveOf_4 ?_
  obtain ⟨q1, h2, hF⟩ := bd_inv hF
  have hM6 := T_X7_moveOf hfl fl _ _ _ _ hv0 _ h2
  rcases xc_inv hF with ⟨e7, h5, hF⟩ | ⟨x3, h5, hF⟩
  · rw [h5] at hM6
    by_cases c11 : e7 = 6
    · have hF := ite_t hF c11
      subst c11
      refine E_callVX_c (i9 := 4) (na := 2) (As := [.int v1, .int v2]) (S := [.int (0 : Int32), .ref v3]) (kc := 0) (ks := 0) (ci := 9) rfl rfl hv0 (shape_ord hv0).1 cwV_RL_68 [] (0, 10, 13, 63) [(0, 10, 17, 13)] rfl ⟨Nat.le_of_ble_eq_true rfl, Nat.le_of_ble_eq_true rfl⟩ (by decide) wT552 wN8 (by intro z9 hz9; cases hz9) (Nat.le_of_ble_eq_true rfl) ⟨Nat.le_of_ble_eq_true rfl, Nat.le_of_ble_eq_true rfl⟩ hM6 rfl rfl (Nat.le_of_ble_eq_true rfl) dL_moveOf_5 dL_moveOf_13 ?_
      refine E_iconst (v := (1 : Int32)) rfl dL_moveOf_15 ?_
      exact E_iret (Or.inr ⟨rfl, rfl⟩) rfl (by cases hF; exact hr) dL_moveOf_16
    · have hF := ite_f hF c11
      by_cases c12 : e7 = 1
      · have hF := ite_t hF c12
        subst c12
        refine E_callVX_c (i9 := 4) (na := 2) (As := [.int v1, .int v2]) (S := [.int (0 : Int32), .ref v3]) (kc := 0) (ks := 0) (ci := 9) rfl rfl hv0 (shape_ord hv0).1 cwV_RL_68 [(0, 10, 13, 63)] (0, 10, 17, 13) [] rfl ⟨Nat.le_of_ble_eq_true rfl, Nat.le_of_ble_eq_true rfl⟩ (by decide) wT503 wN4 (by intro z9 hz9; simp only [List.mem_cons, List.not_mem_nil, or_false] at hz9; rcases hz9 with rfl <;> first | exact ⟨by decide, _, wT552, by decide +kernel⟩) (Nat.le_of_ble_eq_true rfl) ⟨Nat.le_of_ble_eq_true rfl, Nat.le_of_ble_eq_true rfl⟩ hM6 rfl rfl (Nat.le_of_ble_eq_true rfl) dL_moveOf_5 dL_moveOf_17 ?_
        refine E_iconst (v := (2 : Int32)) rfl dL_moveOf_19 ?_
        exact E_iret (Or.inr ⟨rfl, rfl⟩) rfl (by cases hF; exact hr) dL_moveOf_20
      · have hF := ite_f hF c12
        cases hF
  · rw [h5] at hM6
    generalize q1.2 = s4 at hF hM6
    refine E_callVX (na := 2) (As := [.int v1, .int v2]) (S := [.int (0 : Int32), .ref v3]) (kc := 0) (ks := 0) (ci := 9) rfl rfl hv0 (shape_ord hv0).1 cwV_RL_68 ⟨Nat.le_of_ble_eq_true rfl, Nat.le_of_ble_eq_true rfl⟩ hM6 rfl rfl rfl (Nat.le_of_ble_eq_true rfl) dL_moveOf_5 ?_
    refine E_i2l dL_moveOf_8 ?_
    obtain ⟨N8, h9, hF⟩ := bd_inv hF
    have h9 := aLen_inv h9
    obtain ⟨h10, hF⟩ := gd_inv hF
    refine E_last _ h9 (shape_ord h9).1 h10 dL_moveOf_9 ?_
    refine E_goto (tgt := 21) rfl dL_moveOf_10 ?_
    refine E_iconst (v := (0 : Int32)) rfl dL_moveOf_21 ?_
    exact E_iret (Or.inr ⟨rfl, rfl⟩) rfl (by cases hF; exact hr) dL_moveOf_22
set_option maxHeartbeats 4000000 in
set_option maxRecDepth 100000 in
theorem T_L_move {l : Launch} (hfl : l.stackTraces = false) (fl : Nat) (v0 : Nat) (v1 : Int32) (v2 : Int32) (v3 : Nat) (s : Mem) (hv0 : shape v0 = some (.inl 9)) (ρ : (Int32 × Mem)) (hF : F_L_move fl v0 v1 v2 v3 s = some ρ) : MetX l X_L_move NF s [.ref v0, .int v1, .int v2, .ref v3] (.inr (some (.int ρ.1)), NF, ρ.2) := by
  unfold F_L_move at hF
  obtain ⟨r, hr⟩ : ∃ r : Rs, r = (.inr (some (.int ρ.1)), NF, ρ.2) := ⟨_, rfl⟩
  rw [← hr]
  refine metH_of_E rfl (by decide) (by decide +kernel) hfl rfl (Nat.le_of_ble_eq_true rfl) ?_
  show E l X_L_move r false NF s 3 18 0 [(0, .ref v0), (1, .int v1), (2, .int v2), (3, .ref v3)] []
  refine E_aload_n (j := 3) (i := 3) (q := 3) rfl rfl dL_move_0 ?_
  refine E_iconst (v := (0 : Int32)) rfl dL_move_1 ?_
  refine E_aload_n (j := 0) (i := 0) (q := 0) rfl rfl dL_move_2 ?_
  refine E_iload_n (j := 1) (i := 1) (q := 1) rfl rfl dL_move_3 ?_
  refine E_iload_n (j := 2) (i := 2) (q := 2) rfl rfl dL_move_4 ?_
  obtain ⟨q1, h2, hF⟩ := bd_inv hF
  have hM6 := T_X7_move hfl fl _ _ _ _ hv0 _ h2
  rcases xc_inv hF with ⟨e7, h5, hF⟩ | ⟨x3, h5, hF⟩
  · rw [h5] at hM6
    by_cases c11 : e7 = 3
    · have hF := ite_t hF c11
      subst c11
      refine E_callVX_c (i9 := 4) (na := 2) (As := [.int v1, .int v2]) (S := [.int (0 : Int32), .ref v3]) (kc := 0) (ks := 0) (ci := 9) rfl rfl hv0 (shape_ord hv0).1 cwV_RL_71 [] (0, 10, 13, 21) [(0, 10, 17, 15), (0, 10, 21, 50)] rfl ⟨Nat.le_of_ble_eq_true rfl, Nat.le_of_ble_eq_true rfl⟩ (by decide) wT509 wN6 (by intro z9 hz9; cases hz9) (Nat.le_of_ble_eq_true rfl) ⟨Nat.le_of_ble_eq_true rfl, Nat.le_of_ble_eq_true rfl⟩ hM6 rfl rfl (Nat.le_of_ble_eq_true rfl) dL_move_5 dL_move_13 ?_
      refine E_iconst (v := (1 : Int32)) rfl dL_move_15 ?_
      exact E_iret (Or.inr ⟨rfl, rfl⟩) rfl (by cases hF; exact hr) dL_move_16
    · have hF := ite_f hF c11
      by_cases c12 : e7 = 2
      · have hF := ite_t hF c12
        subst c12
        refine E_callVX_c (i9 := 4) (na := 2) (As := [.int v1, .int v2]) (S := [.int (0 : Int32), .ref v3]) (kc := 0) (ks := 0) (ci := 9) rfl rfl hv0 (shape_ord hv0).1 cwV_RL_71 [(0, 10, 13, 21)] (0, 10, 17, 15) [(0, 10, 21, 50)] rfl ⟨Nat.le_of_ble_eq_true rfl, Nat.le_of_ble_eq_true rfl⟩ (by decide) wT504 wN5 (by intro z9 hz9; simp only [List.mem_cons, List.not_mem_nil, or_false] at hz9; rcases hz9 with rfl <;> first | exact ⟨by decide, _, wT509, by decide +kernel⟩) (Nat.le_of_ble_eq_true rfl) ⟨Nat.le_of_ble_eq_true rfl, Nat.le_of_ble_eq_true rfl⟩ hM6 rfl rfl (Nat.le_of_ble_eq_true rfl) dL_move_5 dL_move_17 ?_
        refine E_iconst (v := (2 : Int32)) rfl dL_move_19 ?_
        exact E_iret (Or.inr ⟨rfl, rfl⟩) rfl (by cases hF; exact hr) dL_move_20
      · have hF := ite_f hF c12
        by_cases c13 : e7 = 5
        · have hF := ite_t hF c13
          subst c13
          refine E_callVX_c (i9 := 4) (na := 2) (As := [.int v1, .int v2]) (S := [.int (0 : Int32), .ref v3]) (kc := 0) (ks := 0) (ci := 9) rfl rfl hv0 (shape_ord hv0).1 cwV_RL_71 [(0, 10, 13, 21), (0, 10, 17, 15)] (0, 10, 21, 50) [] rfl ⟨Nat.le_of_ble_eq_true rfl, Nat.le_of_ble_eq_true rfl⟩ (by decide) wT539 wN7 (by intro z9 hz9; simp only [List.mem_cons, List.not_mem_nil, or_false] at hz9; rcases hz9 with rfl | rfl <;> first | exact ⟨by decide, _, wT509, by decide +kernel⟩ | exact ⟨by decide, _, wT504, by decide +kernel⟩) (Nat.le_of_ble_eq_true rfl) ⟨Nat.le_of_ble_eq_true rfl, Nat.le_of_ble_eq_true rfl⟩ hM6 rfl rfl (Nat.le_of_ble_eq_true rfl) dL_move_5 dL_move_21 ?_
          refine E_iconst (v := (3 : Int32)) rfl dL_move_23 ?_
          exact E_iret (Or.inr ⟨rfl, rfl⟩) rfl (by cases hF; exact hr) dL_move_24
        · have hF := ite_f hF c13
          cases hF
  · rw [h5] at hM6
    generalize q1.2 = s4 at hF hM6
    refine E_callVX (na := 2) (As := [.int v1, .int v2]) (S := [.int (0 : Int32), .ref v3]) (kc := 0) (ks := 0) (ci := 9) rfl rfl hv0 (shape_ord hv0).1 cwV_RL_71 ⟨Nat.le_of_ble_eq_true rfl, Nat.le_of_ble_eq_true rfl⟩ hM6 rfl rfl rfl (Nat.le_of_ble_eq_true rfl) dL_move_5 ?_
    refine E_i2l dL_move_8 ?_
    obtain ⟨N8, h9, hF⟩ := bd_inv hF
    have h9 := aLen_inv h9
    obtain ⟨h10, hF⟩ := gd_inv hF
    refine E_last _ h9 (shape_ord h9).1 h10 dL_move_9 ?_
    refine E_goto (tgt := 25) rfl dL_move_10 ?_
    refine E_iconst (v := (0 : Int32)) rfl dL_move_25 ?_
    exact E_iret (Or.inr ⟨rfl, rfl⟩) rfl (by cases hF; exact hr) dL_move_26
set_option maxHeartbeats 4000000 in
set_option maxRecDepth 100000 in
theorem T_L_cancel {l : Launch} (hfl : l.stackTraces = false) (fl : Nat) (v0 : Nat) (v1 : Int32) (v2 : Nat) (s : Mem) (hv0 : shape v0 = some (.inl 9)) (ρ : (Int32 × Mem)) (hF : F_L_cancel fl v0 v1 v2 s = some ρ) : MetX l X_L_cancel NF s [.ref v0, .int v1, .ref v2] (.inr (some (.int ρ.1)), NF, ρ.2) := by
  unfold F_L_cancel at hF
  obtain ⟨r, hr⟩ : ∃ r : Rs, r = (.inr (some (.int ρ.1)), NF, ρ.2) := ⟨_, rfl⟩
  rw [← hr]
  refine metH_of_E rfl (by decide) (by decide +kernel) hfl rfl (Nat.le_of_ble_eq_true rfl) ?_
  show E l X_L_cancel r false NF s 2 12 0 [(0, .ref v0), (1, .int v1), (2, .ref v2)] []
  refine E_aload_n (j := 2) (i := 2) (q := 2) rfl rfl dL_cancel_0 ?_
  refine E_iconst (v := (0 : Int32)) rfl dL_cancel_1 ?_
  refine E_aload_n (j := 0) (i := 0) (q := 0) rfl rfl dL_cancel_2 ?_
  refine E_iload_n (j := 1) (i := 1) (q := 1) rfl rfl dL_cancel_3 ?_
  obtain ⟨q1, h2, hF⟩ := bd_inv hF
  have hM6 := T_X7_cancel hfl fl _ _ _ hv0 _ h2
  rcases xc_inv hF with ⟨e7, h5, hF⟩ | ⟨x3, h5, hF⟩
  · rw [h5] at hM6
    by_cases c11 : e7 = 3
    · have hF := ite_t hF c11
      subst c11
      refine E_callVX_c_n (i9 := 3) (na := 1) (As := [.int v1]) (S := [.int (0 : Int32), .ref v2]) (kc := 0) (ks := 0) (ci := 9) rfl rfl hv0 (shape_ord hv0).1 cwV_RL_74 [] (0, 9, 12, 21) [(0, 9, 15, 15)] rfl ⟨Nat.le_of_ble_eq_true rfl, Nat.le_of_ble_eq_true rfl⟩ (by decide) wT509 wN6 (by intro z9 hz9; cases hz9) (j9 := 3) rfl (Nat.le_of_ble_eq_true rfl) ⟨Nat.le_of_ble_eq_true rfl, Nat.le_of_ble_eq_true rfl⟩ hM6 rfl rfl (Nat.le_of_ble_eq_true rfl) dL_cancel_4 dL_cancel_12 ?_
      refine E_iconst (v := (1 : Int32)) rfl dL_cancel_13 ?_
      exact E_iret (Or.inr ⟨rfl, rfl⟩) rfl (by cases hF; exact hr) dL_cancel_14
    · have hF := ite_f hF c11
      by_cases c12 : e7 = 2
      · have hF := ite_t hF c12
        subst c12
        refine E_callVX_c_n (i9 := 3) (na := 1) (As := [.int v1]) (S := [.int (0 : Int32), .ref v2]) (kc := 0) (ks := 0) (ci := 9) rfl rfl hv0 (shape_ord hv0).1 cwV_RL_74 [(0, 9, 12, 21)] (0, 9, 15, 15) [] rfl ⟨Nat.le_of_ble_eq_true rfl, Nat.le_of_ble_eq_true rfl⟩ (by decide) wT504 wN5 (by intro z9 hz9; simp only [List.mem_cons, List.not_mem_nil, or_false] at hz9; rcases hz9 with rfl <;> first | exact ⟨by decide, _, wT509, by decide +kernel⟩) (j9 := 3) rfl (Nat.le_of_ble_eq_true rfl) ⟨Nat.le_of_ble_eq_true rfl, Nat.le_of_ble_eq_true rfl⟩ hM6 rfl rfl (Nat.le_of_ble_eq_true rfl) dL_cancel_4 dL_cancel_15 ?_
        refine E_iconst (v := (2 : Int32)) rfl dL_cancel_16 ?_
        exact E_iret (Or.inr ⟨rfl, rfl⟩) rfl (by cases hF; exact hr) dL_cancel_17
      · have hF := ite_f hF c12
        cases hF
  · rw [h5] at hM6
    generalize q1.2 = s4 at hF hM6
    refine E_callVX (na := 1) (As := [.int v1]) (S := [.int (0 : Int32), .ref v2]) (kc := 0) (ks := 0) (ci := 9) rfl rfl hv0 (shape_ord hv0).1 cwV_RL_74 ⟨Nat.le_of_ble_eq_true rfl, Nat.le_of_ble_eq_true rfl⟩ hM6 rfl rfl rfl (Nat.le_of_ble_eq_true rfl) dL_cancel_4 ?_
    refine E_i2l dL_cancel_7 ?_
    obtain ⟨N8, h9, hF⟩ := bd_inv hF
    have h9 := aLen_inv h9
    obtain ⟨h10, hF⟩ := gd_inv hF
    refine E_last _ h9 (shape_ord h9).1 h10 dL_cancel_8 ?_
    refine E_goto (tgt := 18) rfl dL_cancel_9 ?_
    refine E_iconst (v := (0 : Int32)) rfl dL_cancel_18 ?_
    exact E_iret (Or.inr ⟨rfl, rfl⟩) rfl (by cases hF; exact hr) dL_cancel_19
set_option maxHeartbeats 4000000 in
set_option maxRecDepth 100000 in
theorem T_L_advance {l : Launch} (hfl : l.stackTraces = false) (fl : Nat) (v0 : Nat) (v1 : Int32) (v2 : Nat) (s : Mem) (hv0 : shape v0 = some (.inl 9)) (ρ : (Int32 × Mem)) (hF : F_L_advance fl v0 v1 v2 s = some ρ) : MetX l X_L_advance NF s [.ref v0, .int v1, .ref v2] (.inr (some (.int ρ.1)), NF, ρ.2) := by
  unfold F_L_advance at hF
  obtain ⟨r, hr⟩ : ∃ r : Rs, r = (.inr (some (.int ρ.1)), NF, ρ.2) := ⟨_, rfl⟩
  rw [← hr]
  refine metH_of_E rfl (by decide) (by decide +kernel) hfl rfl (Nat.le_of_ble_eq_true rfl) ?_
  show E l X_L_advance r false NF s 1 6 0 [(0, .ref v0), (1, .int v1), (2, .ref v2)] []
  refine E_aload_n (j := 2) (i := 2) (q := 2) rfl rfl dL_advance_0 ?_
  refine E_iconst (v := (0 : Int32)) rfl dL_advance_1 ?_
  refine E_aload_n (j := 0) (i := 0) (q := 0) rfl rfl dL_advance_2 ?_
  refine E_iload_n (j := 1) (i := 1) (q := 1) rfl rfl dL_advance_3 ?_
  obtain ⟨q1, h2, hF⟩ := bd_inv hF
  have hM6 := T_X7_advance hfl fl _ _ _ hv0 _ h2
  rcases xc_inv hF with ⟨e7, h5, hF⟩ | ⟨x3, h5, hF⟩
  · rw [h5] at hM6
    by_cases c11 : e7 = 1
    · have hF := ite_t hF c11
      subst c11
      refine E_callVX_c_n (i9 := 3) (na := 1) (As := [.int v1]) (S := [.int (0 : Int32), .ref v2]) (kc := 0) (ks := 0) (ci := 9) rfl rfl hv0 (shape_ord hv0).1 cwV_RL_77 [] (0, 9, 12, 13) [] rfl ⟨Nat.le_of_ble_eq_true rfl, Nat.le_of_ble_eq_true rfl⟩ (by decide) wT503 wN4 (by intro z9 hz9; cases hz9) (j9 := 3) rfl (Nat.le_of_ble_eq_true rfl) ⟨Nat.le_of_ble_eq_true rfl, Nat.le_of_ble_eq_true rfl⟩ hM6 rfl rfl (Nat.le_of_ble_eq_true rfl) dL_advance_4 dL_advance_12 ?_
      refine E_iconst (v := (1 : Int32)) rfl dL_advance_13 ?_
      exact E_iret (Or.inr ⟨rfl, rfl⟩) rfl (by cases hF; exact hr) dL_advance_14
    · have hF := ite_f hF c11
      cases hF
  · rw [h5] at hM6
    generalize q1.2 = s4 at hF hM6
    refine E_callVX (na := 1) (As := [.int v1]) (S := [.int (0 : Int32), .ref v2]) (kc := 0) (ks := 0) (ci := 9) rfl rfl hv0 (shape_ord hv0).1 cwV_RL_77 ⟨Nat.le_of_ble_eq_true rfl, Nat.le_of_ble_eq_true rfl⟩ hM6 rfl rfl rfl (Nat.le_of_ble_eq_true rfl) dL_advance_4 ?_
    refine E_i2l dL_advance_7 ?_
    obtain ⟨N8, h9, hF⟩ := bd_inv hF
    have h9 := aLen_inv h9
    obtain ⟨h10, hF⟩ := gd_inv hF
    refine E_last _ h9 (shape_ord h9).1 h10 dL_advance_8 ?_
    refine E_goto (tgt := 15) rfl dL_advance_9 ?_
    refine E_iconst (v := (0 : Int32)) rfl dL_advance_15 ?_
    exact E_iret (Or.inr ⟨rfl, rfl⟩) rfl (by cases hF; exact hr) dL_advance_16
set_option maxHeartbeats 4000000 in
set_option maxRecDepth 100000 in
theorem T_L_obstacle {l : Launch} (hfl : l.stackTraces = false) (fl : Nat) (v0 : Nat) (v1 : Int32) (v2 : Int32) (v3 : Nat) (s : Mem) (hv0 : shape v0 = some (.inl 9)) (ρ : (Int32 × Mem)) (hF : F_L_obstacle fl v0 v1 v2 v3 s = some ρ) : MetX l X_L_obstacle NF s [.ref v0, .int v1, .int v2, .ref v3] (.inr (some (.int ρ.1)), NF, ρ.2) := by
  unfold F_L_obstacle at hF
  obtain ⟨r, hr⟩ : ∃ r : Rs, r = (.inr (some (.int ρ.1)), NF, ρ.2) := ⟨_, rfl⟩
  rw [← hr]
  refine metH_of_E rfl (by decide) (by decide +kernel) hfl rfl (Nat.le_of_ble_eq_true rfl) ?_
  show E l X_L_obstacle r false NF s 2 12 0 [(0, .ref v0), (1, .int v1), (2, .int v2), (3, .ref v3)] []
  refine E_aload_n (j := 3) (i := 3) (q := 3) rfl rfl dL_obstacle_0 ?_
  refine E_iconst (v := (0 : Int32)) rfl dL_obstacle_1 ?_
  refine E_aload_n (j := 0) (i := 0) (q := 0) rfl rfl dL_obstacle_2 ?_
  refine E_iload_n (j := 1) (i := 1) (q := 1) rfl rfl dL_obstacle_3 ?_
  refine E_iload_n (j := 2) (i := 2) (q := 2) rfl rfl dL_obstacle_4 ?_
  obtain ⟨q1, h2, hF⟩ := bd_inv hF
  have hM6 := T_X7_obstacle hfl fl _ _ _ _ hv0 _ h2
  rcases xc_inv hF with ⟨e7, h5, hF⟩ | ⟨x3, h5, hF⟩
  · rw [h5] at hM6
    by_cases c11 : e7 = 3
    · have hF := ite_t hF c11
      subst c11
      refine E_callVX_c (i9 := 4) (na := 2) (As := [.int v1, .int v2]) (S := [.int (0 : Int32), .ref v3]) (kc := 0) (ks := 0) (ci := 9) rfl rfl hv0 (shape_ord hv0).1 cwV_RL_80 [] (0, 10, 13, 21) [] rfl ⟨Nat.le_of_ble_eq_true rfl, Nat.le_of_ble_eq_true rfl⟩ (by decide) wT509 wN6 (by intro z9 hz9; cases hz9) (Nat.le_of_ble_eq_true rfl) ⟨Nat.le_of_ble_eq_true rfl, Nat.le_of_ble_eq_true rfl⟩ hM6 rfl rfl (Nat.le_of_ble_eq_true rfl) dL_obstacle_5 dL_obstacle_13 ?_
      refine E_iconst (v := (1 : Int32)) rfl dL_obstacle_15 ?_
      exact E_iret (Or.inr ⟨rfl, rfl⟩) rfl (by cases hF; exact hr) dL_obstacle_16
    · have hF := ite_f hF c11
      cases hF
  · rw [h5] at hM6
    generalize q1.2 = s4 at hF hM6
    refine E_callVX (na := 2) (As := [.int v1, .int v2]) (S := [.int (0 : Int32), .ref v3]) (kc := 0) (ks := 0) (ci := 9) rfl rfl hv0 (shape_ord hv0).1 cwV_RL_80 ⟨Nat.le_of_ble_eq_true rfl, Nat.le_of_ble_eq_true rfl⟩ hM6 rfl rfl rfl (Nat.le_of_ble_eq_true rfl) dL_obstacle_5 ?_
    refine E_i2l dL_obstacle_8 ?_
    obtain ⟨N8, h9, hF⟩ := bd_inv hF
    have h9 := aLen_inv h9
    obtain ⟨h10, hF⟩ := gd_inv hF
    refine E_last _ h9 (shape_ord h9).1 h10 dL_obstacle_9 ?_
    refine E_goto (tgt := 17) rfl dL_obstacle_10 ?_
    refine E_iconst (v := (0 : Int32)) rfl dL_obstacle_17 ?_
    exact E_iret (Or.inr ⟨rfl, rfl⟩) rfl (by cases hF; exact hr) dL_obstacle_18
set_option maxHeartbeats 4000000 in
set_option maxRecDepth 100000 in
theorem T_L_occupant {l : Launch} (hfl : l.stackTraces = false) (fl : Nat) (v0 : Nat) (v1 : Int32) (v2 : Int32) (v3 : Nat) (s : Mem) (hv0 : shape v0 = some (.inl 9)) (ρ : (Int32 × Mem)) (hF : F_L_occupant fl v0 v1 v2 v3 s = some ρ) : MetX l X_L_occupant NF s [.ref v0, .int v1, .int v2, .ref v3] (.inr (some (.int ρ.1)), NF, ρ.2) := by
  unfold F_L_occupant at hF
  obtain ⟨r, hr⟩ : ∃ r : Rs, r = (.inr (some (.int ρ.1)), NF, ρ.2) := ⟨_, rfl⟩
  rw [← hr]
  refine metH_of_E rfl (by decide) (by decide +kernel) hfl rfl (Nat.le_of_ble_eq_true rfl) ?_
  show E l X_L_occupant r false NF s 2 12 0 [(0, .ref v0), (1, .int v1), (2, .int v2), (3, .ref v3)] []
  refine E_aload_n (j := 3) (i := 3) (q := 3) rfl rfl dL_occupant_0 ?_
  refine E_iconst (v := (0 : Int32)) rfl dL_occupant_1 ?_
  refine E_aload_n (j := 0) (i := 0) (q := 0) rfl rfl dL_occupant_2 ?_
  refine E_iload_n (j := 1) (i := 1) (q := 1) rfl rfl dL_occupant_3 ?_
  refine E_iload_n (j := 2) (i := 2) (q := 2) rfl rfl dL_occupant_4 ?_
  obtain ⟨q1, h2, hF⟩ := bd_inv hF
  have hM6 := T_X7_occupant hfl fl _ _ _ _ hv0 _ h2
  rcases xc_inv hF with ⟨e7, h5, hF⟩ | ⟨x3, h5, hF⟩
  · rw [h5] at hM6
    by_cases c11 : e7 = 3
    · have hF := ite_t hF c11
      subst c11
      refine E_callVX_c (i9 := 4) (na := 2) (As := [.int v1, .int v2]) (S := [.int (0 : Int32), .ref v3]) (kc := 0) (ks := 0) (ci := 9) rfl rfl hv0 (shape_ord hv0).1 cwV_RL_83 [] (0, 10, 13, 21) [] rfl ⟨Nat.le_of_ble_eq_true rfl, Nat.le_of_ble_eq_true rfl⟩ (by decide) wT509 wN6 (by intro z9 hz9; cases hz9) (Nat.le_of_ble_eq_true rfl) ⟨Nat.le_of_ble_eq_true rfl, Nat.le_of_ble_eq_true rfl⟩ hM6 rfl rfl (Nat.le_of_ble_eq_true rfl) dL_occupant_5 dL_occupant_13 ?_
      refine E_iconst (v := (1 : Int32)) rfl dL_occupant_15 ?_
      exact E_iret (Or.inr ⟨rfl, rfl⟩) rfl (by cases hF; exact hr) dL_occupant_16
    · have hF := ite_f hF c11
      cases hF
  · rw [h5] at hM6
    generalize q1.2 = s4 at hF hM6
    refine E_callVX (na := 2) (As := [.int v1, .int v2]) (S := [.int (0 : Int32), .ref v3]) (kc := 0) (ks := 0) (ci := 9) rfl rfl hv0 (shape_ord hv0).1 cwV_RL_83 ⟨Nat.le_of_ble_eq_true rfl, Nat.le_of_ble_eq_true rfl⟩ hM6 rfl rfl rfl (Nat.le_of_ble_eq_true rfl) dL_occupant_5 ?_
    refine E_i2l dL_occupant_8 ?_
    obtain ⟨N8, h9, hF⟩ := bd_inv hF
    have h9 := aLen_inv h9
    obtain ⟨h10, hF⟩ := gd_inv hF
    refine E_last _ h9 (shape_ord h9).1 h10 dL_occupant_9 ?_
    refine E_goto (tgt := 17) rfl dL_occupant_10 ?_
    refine E_iconst (v := (0 : Int32)) rfl dL_occupant_17 ?_
    exact E_iret (Or.inr ⟨rfl, rfl⟩) rfl (by cases hF; exact hr) dL_occupant_18
set_option maxHeartbeats 4000000 in
set_option maxRecDepth 100000 in
theorem T_L_busyNight {l : Launch} (hfl : l.stackTraces = false) (fl : Nat) (v0 : Nat) (v1 : Int32) (v2 : Int32) (v3 : Nat) (s : Mem) (hv0 : shape v0 = some (.inl 9)) (ρ : (Int32 × Mem)) (hF : F_L_busyNight fl v0 v1 v2 v3 s = some ρ) : MetX l X_L_busyNight NF s [.ref v0, .int v1, .int v2, .ref v3] (.inr (some (.int ρ.1)), NF, ρ.2) := by
  unfold F_L_busyNight at hF
  obtain ⟨r, hr⟩ : ∃ r : Rs, r = (.inr (some (.int ρ.1)), NF, ρ.2) := ⟨_, rfl⟩
  rw [← hr]
  refine metH_of_E rfl (by decide) (by decide +kernel) hfl rfl (Nat.le_of_ble_eq_true rfl) ?_
  show E l X_L_busyNight r false NF s 2 12 0 [(0, .ref v0), (1, .int v1), (2, .int v2), (3, .ref v3)] []
  refine E_aload_n (j := 3) (i := 3) (q := 3) rfl rfl dL_busyNight_0 ?_
  refine E_iconst (v := (0 : Int32)) rfl dL_busyNight_1 ?_
  refine E_aload_n (j := 0) (i := 0) (q := 0) rfl rfl dL_busyNight_2 ?_
  refine E_iload_n (j := 1) (i := 1) (q := 1) rfl rfl dL_busyNight_3 ?_
  refine E_iload_n (j := 2) (i := 2) (q := 2) rfl rfl dL_busyNight_4 ?_
  obtain ⟨q1, h2, hF⟩ := bd_inv hF
  have hM6 := T_X7_busyNight hfl fl _ _ _ _ hv0 _ h2
  rcases xc_inv hF with ⟨e7, h5, hF⟩ | ⟨x3, h5, hF⟩
  · rw [h5] at hM6
    by_cases c11 : e7 = 3
    · have hF := ite_t hF c11
      subst c11
      refine E_callVX_c (i9 := 4) (na := 2) (As := [.int v1, .int v2]) (S := [.int (0 : Int32), .ref v3]) (kc := 0) (ks := 0) (ci := 9) rfl rfl hv0 (shape_ord hv0).1 cwV_RL_86 [] (0, 10, 13, 21) [(0, 10, 17, 63)] rfl ⟨Nat.le_of_ble_eq_true rfl, Nat.le_of_ble_eq_true rfl⟩ (by decide) wT509 wN6 (by intro z9 hz9; cases hz9) (Nat.le_of_ble_eq_true rfl) ⟨Nat.le_of_ble_eq_true rfl, Nat.le_of_ble_eq_true rfl⟩ hM6 rfl rfl (Nat.le_of_ble_eq_true rfl) dL_busyNight_5 dL_busyNight_13 ?_
      refine E_iconst (v := (1 : Int32)) rfl dL_busyNight_15 ?_
      exact E_iret (Or.inr ⟨rfl, rfl⟩) rfl (by cases hF; exact hr) dL_busyNight_16
    · have hF := ite_f hF c11
      by_cases c12 : e7 = 6
      · have hF := ite_t hF c12
        subst c12
        refine E_callVX_c (i9 := 4) (na := 2) (As := [.int v1, .int v2]) (S := [.int (0 : Int32), .ref v3]) (kc := 0) (ks := 0) (ci := 9) rfl rfl hv0 (shape_ord hv0).1 cwV_RL_86 [(0, 10, 13, 21)] (0, 10, 17, 63) [] rfl ⟨Nat.le_of_ble_eq_true rfl, Nat.le_of_ble_eq_true rfl⟩ (by decide) wT552 wN8 (by intro z9 hz9; simp only [List.mem_cons, List.not_mem_nil, or_false] at hz9; rcases hz9 with rfl <;> first | exact ⟨by decide, _, wT509, by decide +kernel⟩) (Nat.le_of_ble_eq_true rfl) ⟨Nat.le_of_ble_eq_true rfl, Nat.le_of_ble_eq_true rfl⟩ hM6 rfl rfl (Nat.le_of_ble_eq_true rfl) dL_busyNight_5 dL_busyNight_17 ?_
        refine E_iconst (v := (2 : Int32)) rfl dL_busyNight_19 ?_
        exact E_iret (Or.inr ⟨rfl, rfl⟩) rfl (by cases hF; exact hr) dL_busyNight_20
      · have hF := ite_f hF c12
        cases hF
  · rw [h5] at hM6
    generalize q1.2 = s4 at hF hM6
    refine E_callVX (na := 2) (As := [.int v1, .int v2]) (S := [.int (0 : Int32), .ref v3]) (kc := 0) (ks := 0) (ci := 9) rfl rfl hv0 (shape_ord hv0).1 cwV_RL_86 ⟨Nat.le_of_ble_eq_true rfl, Nat.le_of_ble_eq_true rfl⟩ hM6 rfl rfl rfl (Nat.le_of_ble_eq_true rfl) dL_busyNight_5 ?_
    refine E_i2l dL_busyNight_8 ?_
    obtain ⟨N8, h9, hF⟩ := bd_inv hF
    have h9 := aLen_inv h9
    obtain ⟨h10, hF⟩ := gd_inv hF
    refine E_last _ h9 (shape_ord h9).1 h10 dL_busyNight_9 ?_
    refine E_goto (tgt := 21) rfl dL_busyNight_10 ?_
    refine E_iconst (v := (0 : Int32)) rfl dL_busyNight_21 ?_
    exact E_iret (Or.inr ⟨rfl, rfl⟩) rfl (by cases hF; exact hr) dL_busyNight_22
set_option maxHeartbeats 4000000 in
set_option maxRecDepth 100000 in
theorem T_L_firstFree {l : Launch} (hfl : l.stackTraces = false) (fl : Nat) (v0 : Nat) (v1 : Int32) (v2 : Int32) (v3 : Int32) (v4 : Nat) (s : Mem) (hv0 : shape v0 = some (.inl 9)) (ρ : (Int32 × Mem)) (hF : F_L_firstFree fl v0 v1 v2 v3 v4 s = some ρ) : MetX l X_L_firstFree NF s [.ref v0, .int v1, .int v2, .int v3, .ref v4] (.inr (some (.int ρ.1)), NF, ρ.2) := by
  unfold F_L_firstFree at hF
  obtain ⟨r, hr⟩ : ∃ r : Rs, r = (.inr (some (.int ρ.1)), NF, ρ.2) := ⟨_, rfl⟩
  rw [← hr]
  refine metH_of_E rfl (by decide) (by decide +kernel) hfl rfl (Nat.le_of_ble_eq_true rfl) ?_
  show E l X_L_firstFree r false NF s 2 12 0 [(0, .ref v0), (1, .int v1), (2, .int v2), (3, .int v3), (4, .ref v4)] []
  refine E_aload (q := 4) rfl dL_firstFree_0 ?_
  refine E_iconst (v := (0 : Int32)) rfl dL_firstFree_2 ?_
  refine E_aload_n (j := 0) (i := 0) (q := 0) rfl rfl dL_firstFree_3 ?_
  refine E_iload_n (j := 1) (i := 1) (q := 1) rfl rfl dL_firstFree_4 ?_
  refine E_iload_n (j := 2) (i := 2) (q := 2) rfl rfl dL_firstFree_5 ?_
  refine E_iload_n (j := 3) (i := 3) (q := 3) rfl rfl dL_firstFree_6 ?_
  obtain ⟨q1, h2, hF⟩ := bd_inv hF
  have hM6 := T_X7_firstFree hfl fl _ _ _ _ _ hv0 _ h2
  rcases xc_inv hF with ⟨e7, h5, hF⟩ | ⟨x3, h5, hF⟩
  · rw [h5] at hM6
    by_cases c11 : e7 = 3
    · have hF := ite_t hF c11
      subst c11
      refine E_callVX_c (i9 := 5) (na := 3) (As := [.int v1, .int v2, .int v3]) (S := [.int (0 : Int32), .ref v4]) (kc := 0) (ks := 0) (ci := 9) rfl rfl hv0 (shape_ord hv0).1 cwV_RL_89 [] (0, 12, 15, 21) [(0, 12, 19, 13), (0, 12, 23, 63)] rfl ⟨Nat.le_of_ble_eq_true rfl, Nat.le_of_ble_eq_true rfl⟩ (by decide) wT509 wN6 (by intro z9 hz9; cases hz9) (Nat.le_of_ble_eq_true rfl) ⟨Nat.le_of_ble_eq_true rfl, Nat.le_of_ble_eq_true rfl⟩ hM6 rfl rfl (Nat.le_of_ble_eq_true rfl) dL_firstFree_7 dL_firstFree_15 ?_
      refine E_iconst (v := (1 : Int32)) rfl dL_firstFree_17 ?_
      exact E_iret (Or.inr ⟨rfl, rfl⟩) rfl (by cases hF; exact hr) dL_firstFree_18
    · have hF := ite_f hF c11
      by_cases c12 : e7 = 1
      · have hF := ite_t hF c12
        subst c12
        refine E_callVX_c (i9 := 5) (na := 3) (As := [.int v1, .int v2, .int v3]) (S := [.int (0 : Int32), .ref v4]) (kc := 0) (ks := 0) (ci := 9) rfl rfl hv0 (shape_ord hv0).1 cwV_RL_89 [(0, 12, 15, 21)] (0, 12, 19, 13) [(0, 12, 23, 63)] rfl ⟨Nat.le_of_ble_eq_true rfl, Nat.le_of_ble_eq_true rfl⟩ (by decide) wT503 wN4 (by intro z9 hz9; simp only [List.mem_cons, List.not_mem_nil, or_false] at hz9; rcases hz9 with rfl <;> first | exact ⟨by decide, _, wT509, by decide +kernel⟩) (Nat.le_of_ble_eq_true rfl) ⟨Nat.le_of_ble_eq_true rfl, Nat.le_of_ble_eq_true rfl⟩ hM6 rfl rfl (Nat.le_of_ble_eq_true rfl) dL_firstFree_7 dL_firstFree_19 ?_
        refine E_iconst (v := (2 : Int32)) rfl dL_firstFree_21 ?_
        exact E_iret (Or.inr ⟨rfl, rfl⟩) rfl (by cases hF; exact hr) dL_firstFree_22
      · have hF := ite_f hF c12
        by_cases c13 : e7 = 6
        · have hF := ite_t hF c13
          subst c13
          refine E_callVX_c (i9 := 5) (na := 3) (As := [.int v1, .int v2, .int v3]) (S := [.int (0 : Int32), .ref v4]) (kc := 0) (ks := 0) (ci := 9) rfl rfl hv0 (shape_ord hv0).1 cwV_RL_89 [(0, 12, 15, 21), (0, 12, 19, 13)] (0, 12, 23, 63) [] rfl ⟨Nat.le_of_ble_eq_true rfl, Nat.le_of_ble_eq_true rfl⟩ (by decide) wT552 wN8 (by intro z9 hz9; simp only [List.mem_cons, List.not_mem_nil, or_false] at hz9; rcases hz9 with rfl | rfl <;> first | exact ⟨by decide, _, wT509, by decide +kernel⟩ | exact ⟨by decide, _, wT503, by decide +kernel⟩) (Nat.le_of_ble_eq_true rfl) ⟨Nat.le_of_ble_eq_true rfl, Nat.le_of_ble_eq_true rfl⟩ hM6 rfl rfl (Nat.le_of_ble_eq_true rfl) dL_firstFree_7 dL_firstFree_23 ?_
          refine E_iconst (v := (3 : Int32)) rfl dL_firstFree_25 ?_
          exact E_iret (Or.inr ⟨rfl, rfl⟩) rfl (by cases hF; exact hr) dL_firstFree_26
        · have hF := ite_f hF c13
          cases hF
  · rw [h5] at hM6
    generalize q1.2 = s4 at hF hM6
    refine E_callVX (na := 3) (As := [.int v1, .int v2, .int v3]) (S := [.int (0 : Int32), .ref v4]) (kc := 0) (ks := 0) (ci := 9) rfl rfl hv0 (shape_ord hv0).1 cwV_RL_89 ⟨Nat.le_of_ble_eq_true rfl, Nat.le_of_ble_eq_true rfl⟩ hM6 rfl rfl rfl (Nat.le_of_ble_eq_true rfl) dL_firstFree_7 ?_
    refine E_i2l dL_firstFree_10 ?_
    obtain ⟨N8, h9, hF⟩ := bd_inv hF
    have h9 := aLen_inv h9
    obtain ⟨h10, hF⟩ := gd_inv hF
    refine E_last _ h9 (shape_ord h9).1 h10 dL_firstFree_11 ?_
    refine E_goto (tgt := 27) rfl dL_firstFree_12 ?_
    refine E_iconst (v := (0 : Int32)) rfl dL_firstFree_27 ?_
    exact E_iret (Or.inr ⟨rfl, rfl⟩) rfl (by cases hF; exact hr) dL_firstFree_28
set_option maxHeartbeats 4000000 in
set_option maxRecDepth 100000 in
theorem T_L_power {l : Launch} (hfl : l.stackTraces = false) (fl : Nat) (v0 : Nat) (v1 : Int32) (v2 : Int32) (v3 : Nat) (s : Mem) (hv0 : shape v0 = some (.inl 9)) (ρ : (Int32 × Mem)) (hF : F_L_power fl v0 v1 v2 v3 s = some ρ) : MetX l X_L_power NF s [.ref v0, .int v1, .int v2, .ref v3] (.inr (some (.int ρ.1)), NF, ρ.2) := by
  unfold F_L_power at hF
  obtain ⟨r, hr⟩ : ∃ r : Rs, r = (.inr (some (.int ρ.1)), NF, ρ.2) := ⟨_, rfl⟩
  rw [← hr]
  refine metH_of_E rfl (by decide) (by decide +kernel) hfl rfl (Nat.le_of_ble_eq_true rfl) ?_
  show E l X_L_power r false NF s 2 12 0 [(0, .ref v0), (1, .int v1), (2, .int v2), (3, .ref v3)] []
  refine E_aload_n (j := 3) (i := 3) (q := 3) rfl rfl dL_power_0 ?_
  refine E_iconst (v := (0 : Int32)) rfl dL_power_1 ?_
  refine E_aload_n (j := 0) (i := 0) (q := 0) rfl rfl dL_power_2 ?_
  refine E_iload_n (j := 1) (i := 1) (q := 1) rfl rfl dL_power_3 ?_
  refine E_iload_n (j := 2) (i := 2) (q := 2) rfl rfl dL_power_4 ?_
  obtain ⟨q1, h2, hF⟩ := bd_inv hF
  have hM6 := T_X7_power hfl fl _ _ _ _ hv0 _ h2
  rcases xc_inv hF with ⟨e7, h5, hF⟩ | ⟨x3, h5, hF⟩
  · rw [h5] at hM6
    by_cases c11 : e7 = 3
    · have hF := ite_t hF c11
      subst c11
      refine E_callVX_c (i9 := 4) (na := 2) (As := [.int v1, .int v2]) (S := [.int (0 : Int32), .ref v3]) (kc := 0) (ks := 0) (ci := 9) rfl rfl hv0 (shape_ord hv0).1 cwV_RL_92 [] (0, 10, 13, 21) [] rfl ⟨Nat.le_of_ble_eq_true rfl, Nat.le_of_ble_eq_true rfl⟩ (by decide) wT509 wN6 (by intro z9 hz9; cases hz9) (Nat.le_of_ble_eq_true rfl) ⟨Nat.le_of_ble_eq_true rfl, Nat.le_of_ble_eq_true rfl⟩ hM6 rfl rfl (Nat.le_of_ble_eq_true rfl) dL_power_5 dL_power_13 ?_
      refine E_iconst (v := (1 : Int32)) rfl dL_power_15 ?_
      exact E_iret (Or.inr ⟨rfl, rfl⟩) rfl (by cases hF; exact hr) dL_power_16
    · have hF := ite_f hF c11
      cases hF
  · rw [h5] at hM6
    generalize q1.2 = s4 at hF hM6
    refine E_callVX (na := 2) (As := [.int v1, .int v2]) (S := [.int (0 : Int32), .ref v3]) (kc := 0) (ks := 0) (ci := 9) rfl rfl hv0 (shape_ord hv0).1 cwV_RL_92 ⟨Nat.le_of_ble_eq_true rfl, Nat.le_of_ble_eq_true rfl⟩ hM6 rfl rfl rfl (Nat.le_of_ble_eq_true rfl) dL_power_5 ?_
    refine E_i2l dL_power_8 ?_
    obtain ⟨N8, h9, hF⟩ := bd_inv hF
    have h9 := aLen_inv h9
    obtain ⟨h10, hF⟩ := gd_inv hF
    refine E_last _ h9 (shape_ord h9).1 h10 dL_power_9 ?_
    refine E_goto (tgt := 17) rfl dL_power_10 ?_
    refine E_iconst (v := (0 : Int32)) rfl dL_power_17 ?_
    exact E_iret (Or.inr ⟨rfl, rfl⟩) rfl (by cases hF; exact hr) dL_power_18
set_option maxHeartbeats 4000000 in
set_option maxRecDepth 100000 in
theorem T_L_peak {l : Launch} (hfl : l.stackTraces = false) (fl : Nat) (v0 : Nat) (v1 : Int32) (v2 : Nat) (s : Mem) (hv0 : shape v0 = some (.inl 9)) (ρ : (Int32 × Mem)) (hF : F_L_peak fl v0 v1 v2 s = some ρ) : MetX l X_L_peak NF s [.ref v0, .int v1, .ref v2] (.inr (some (.int ρ.1)), NF, ρ.2) := by
  unfold F_L_peak at hF
  obtain ⟨r, hr⟩ : ∃ r : Rs, r = (.inr (some (.int ρ.1)), NF, ρ.2) := ⟨_, rfl⟩
  rw [← hr]
  refine metH_of_E rfl (by decide) (by decide +kernel) hfl rfl (Nat.le_of_ble_eq_true rfl) ?_
  show E l X_L_peak r false NF s 2 12 0 [(0, .ref v0), (1, .int v1), (2, .ref v2)] []
  refine E_aload_n (j := 2) (i := 2) (q := 2) rfl rfl dL_peak_0 ?_
  refine E_iconst (v := (0 : Int32)) rfl dL_peak_1 ?_
  refine E_aload_n (j := 0) (i := 0) (q := 0) rfl rfl dL_peak_2 ?_
  refine E_iload_n (j := 1) (i := 1) (q := 1) rfl rfl dL_peak_3 ?_
  obtain ⟨q1, h2, hF⟩ := bd_inv hF
  have hM6 := T_X7_peak hfl fl _ _ _ hv0 _ h2
  rcases xc_inv hF with ⟨e7, h5, hF⟩ | ⟨x3, h5, hF⟩
  · rw [h5] at hM6
    by_cases c11 : e7 = 3
    · have hF := ite_t hF c11
      subst c11
      refine E_callVX_c_n (i9 := 3) (na := 1) (As := [.int v1]) (S := [.int (0 : Int32), .ref v2]) (kc := 0) (ks := 0) (ci := 9) rfl rfl hv0 (shape_ord hv0).1 cwV_RL_95 [] (0, 9, 12, 21) [(0, 9, 15, 63)] rfl ⟨Nat.le_of_ble_eq_true rfl, Nat.le_of_ble_eq_true rfl⟩ (by decide) wT509 wN6 (by intro z9 hz9; cases hz9) (j9 := 3) rfl (Nat.le_of_ble_eq_true rfl) ⟨Nat.le_of_ble_eq_true rfl, Nat.le_of_ble_eq_true rfl⟩ hM6 rfl rfl (Nat.le_of_ble_eq_true rfl) dL_peak_4 dL_peak_12 ?_
      refine E_iconst (v := (1 : Int32)) rfl dL_peak_13 ?_
      exact E_iret (Or.inr ⟨rfl, rfl⟩) rfl (by cases hF; exact hr) dL_peak_14
    · have hF := ite_f hF c11
      by_cases c12 : e7 = 6
      · have hF := ite_t hF c12
        subst c12
        refine E_callVX_c_n (i9 := 3) (na := 1) (As := [.int v1]) (S := [.int (0 : Int32), .ref v2]) (kc := 0) (ks := 0) (ci := 9) rfl rfl hv0 (shape_ord hv0).1 cwV_RL_95 [(0, 9, 12, 21)] (0, 9, 15, 63) [] rfl ⟨Nat.le_of_ble_eq_true rfl, Nat.le_of_ble_eq_true rfl⟩ (by decide) wT552 wN8 (by intro z9 hz9; simp only [List.mem_cons, List.not_mem_nil, or_false] at hz9; rcases hz9 with rfl <;> first | exact ⟨by decide, _, wT509, by decide +kernel⟩) (j9 := 3) rfl (Nat.le_of_ble_eq_true rfl) ⟨Nat.le_of_ble_eq_true rfl, Nat.le_of_ble_eq_true rfl⟩ hM6 rfl rfl (Nat.le_of_ble_eq_true rfl) dL_peak_4 dL_peak_15 ?_
        refine E_iconst (v := (2 : Int32)) rfl dL_peak_16 ?_
        exact E_iret (Or.inr ⟨rfl, rfl⟩) rfl (by cases hF; exact hr) dL_peak_17
      · have hF := ite_f hF c12
        cases hF
  · rw [h5] at hM6
    generalize q1.2 = s4 at hF hM6
    refine E_callVX (na := 1) (As := [.int v1]) (S := [.int (0 : Int32), .ref v2]) (kc := 0) (ks := 0) (ci := 9) rfl rfl hv0 (shape_ord hv0).1 cwV_RL_95 ⟨Nat.le_of_ble_eq_true rfl, Nat.le_of_ble_eq_true rfl⟩ hM6 rfl rfl rfl (Nat.le_of_ble_eq_true rfl) dL_peak_4 ?_
    refine E_i2l dL_peak_7 ?_
    obtain ⟨N8, h9, hF⟩ := bd_inv hF
    have h9 := aLen_inv h9
    obtain ⟨h10, hF⟩ := gd_inv hF
    refine E_last _ h9 (shape_ord h9).1 h10 dL_peak_8 ?_
    refine E_goto (tgt := 18) rfl dL_peak_9 ?_
    refine E_iconst (v := (0 : Int32)) rfl dL_peak_18 ?_
    exact E_iret (Or.inr ⟨rfl, rfl⟩) rfl (by cases hF; exact hr) dL_peak_19
set_option maxHeartbeats 4000000 in
set_option maxRecDepth 100000 in
theorem T_L_gap {l : Launch} (hfl : l.stackTraces = false) (fl : Nat) (v0 : Nat) (v1 : Int32) (v2 : Int32) (v3 : Int32) (v4 : Nat) (s : Mem) (hv0 : shape v0 = some (.inl 9)) (ρ : (Int32 × Mem)) (hF : F_L_gap fl v0 v1 v2 v3 v4 s = some ρ) : MetX l X_L_gap NF s [.ref v0, .int v1, .int v2, .int v3, .ref v4] (.inr (some (.int ρ.1)), NF, ρ.2) := by
  unfold F_L_gap at hF
  obtain ⟨r, hr⟩ : ∃ r : Rs, r = (.inr (some (.int ρ.1)), NF, ρ.2) := ⟨_, rfl⟩
  rw [← hr]
  refine metH_of_E rfl (by decide) (by decide +kernel) hfl rfl (Nat.le_of_ble_eq_true rfl) ?_
  show E l X_L_gap r false NF s 2 12 0 [(0, .ref v0), (1, .int v1), (2, .int v2), (3, .int v3), (4, .ref v4)] []
  refine E_aload (q := 4) rfl dL_gap_0 ?_
  refine E_iconst (v := (0 : Int32)) rfl dL_gap_2 ?_
  refine E_aload_n (j := 0) (i := 0) (q := 0) rfl rfl dL_gap_3 ?_
  refine E_iload_n (j := 1) (i := 1) (q := 1) rfl rfl dL_gap_4 ?_
  refine E_iload_n (j := 2) (i := 2) (q := 2) rfl rfl dL_gap_5 ?_
  refine E_iload_n (j := 3) (i := 3) (q := 3) rfl rfl dL_gap_6 ?_
  obtain ⟨q1, h2, hF⟩ := bd_inv hF
  have hM6 := T_X7_gap hfl fl _ _ _ _ _ hv0 _ h2
  rcases xc_inv hF with ⟨e7, h5, hF⟩ | ⟨x3, h5, hF⟩
  · rw [h5] at hM6
    by_cases c11 : e7 = 3
    · have hF := ite_t hF c11
      subst c11
      refine E_callVX_c (i9 := 5) (na := 3) (As := [.int v1, .int v2, .int v3]) (S := [.int (0 : Int32), .ref v4]) (kc := 0) (ks := 0) (ci := 9) rfl rfl hv0 (shape_ord hv0).1 cwV_RL_98 [] (0, 12, 15, 21) [(0, 12, 19, 63)] rfl ⟨Nat.le_of_ble_eq_true rfl, Nat.le_of_ble_eq_true rfl⟩ (by decide) wT509 wN6 (by intro z9 hz9; cases hz9) (Nat.le_of_ble_eq_true rfl) ⟨Nat.le_of_ble_eq_true rfl, Nat.le_of_ble_eq_true rfl⟩ hM6 rfl rfl (Nat.le_of_ble_eq_true rfl) dL_gap_7 dL_gap_15 ?_
      refine E_iconst (v := (1 : Int32)) rfl dL_gap_17 ?_
      exact E_iret (Or.inr ⟨rfl, rfl⟩) rfl (by cases hF; exact hr) dL_gap_18
    · have hF := ite_f hF c11
      by_cases c12 : e7 = 6
      · have hF := ite_t hF c12
        subst c12
        refine E_callVX_c (i9 := 5) (na := 3) (As := [.int v1, .int v2, .int v3]) (S := [.int (0 : Int32), .ref v4]) (kc := 0) (ks := 0) (ci := 9) rfl rfl hv0 (shape_ord hv0).1 cwV_RL_98 [(0, 12, 15, 21)] (0, 12, 19, 63) [] rfl ⟨Nat.le_of_ble_eq_true rfl, Nat.le_of_ble_eq_true rfl⟩ (by decide) wT552 wN8 (by intro z9 hz9; simp only [List.mem_cons, List.not_mem_nil, or_false] at hz9; rcases hz9 with rfl <;> first | exact ⟨by decide, _, wT509, by decide +kernel⟩) (Nat.le_of_ble_eq_true rfl) ⟨Nat.le_of_ble_eq_true rfl, Nat.le_of_ble_eq_true rfl⟩ hM6 rfl rfl (Nat.le_of_ble_eq_true rfl) dL_gap_7 dL_gap_19 ?_
        refine E_iconst (v := (2 : Int32)) rfl dL_gap_21 ?_
        exact E_iret (Or.inr ⟨rfl, rfl⟩) rfl (by cases hF; exact hr) dL_gap_22
      · have hF := ite_f hF c12
        cases hF
  · rw [h5] at hM6
    generalize q1.2 = s4 at hF hM6
    refine E_callVX (na := 3) (As := [.int v1, .int v2, .int v3]) (S := [.int (0 : Int32), .ref v4]) (kc := 0) (ks := 0) (ci := 9) rfl rfl hv0 (shape_ord hv0).1 cwV_RL_98 ⟨Nat.le_of_ble_eq_true rfl, Nat.le_of_ble_eq_true rfl⟩ hM6 rfl rfl rfl (Nat.le_of_ble_eq_true rfl) dL_gap_7 ?_
    refine E_i2l dL_gap_10 ?_
    obtain ⟨N8, h9, hF⟩ := bd_inv hF
    have h9 := aLen_inv h9
    obtain ⟨h10, hF⟩ := gd_inv hF
    refine E_last _ h9 (shape_ord h9).1 h10 dL_gap_11 ?_
    refine E_goto (tgt := 23) rfl dL_gap_12 ?_
    refine E_iconst (v := (0 : Int32)) rfl dL_gap_23 ?_
    exact E_iret (Or.inr ⟨rfl, rfl⟩) rfl (by cases hF; exact hr) dL_gap_24
set_option maxHeartbeats 4000000 in
set_option maxRecDepth 100000 in
theorem T_L_account {l : Launch} (hfl : l.stackTraces = false) (fl : Nat) (v0 : Nat) (v1 : Int32) (v2 : Nat) (s : Mem) (hv0 : shape v0 = some (.inl 9)) (ρ : (Int32 × Mem)) (hF : F_L_account fl v0 v1 v2 s = some ρ) : MetX l X_L_account NF s [.ref v0, .int v1, .ref v2] (.inr (some (.int ρ.1)), NF, ρ.2) := by
  unfold F_L_account at hF
  obtain ⟨r, hr⟩ : ∃ r : Rs, r = (.inr (some (.int ρ.1)), NF, ρ.2) := ⟨_, rfl⟩
  rw [← hr]
  refine metH_of_E rfl (by decide) (by decide +kernel) hfl rfl (Nat.le_of_ble_eq_true rfl) ?_
  show E l X_L_account r false NF s 1 6 0 [(0, .ref v0), (1, .int v1), (2, .ref v2)] []
  refine E_aload_n (j := 2) (i := 2) (q := 2) rfl rfl dL_account_0 ?_
  refine E_iconst (v := (0 : Int32)) rfl dL_account_1 ?_
  refine E_aload_n (j := 0) (i := 0) (q := 0) rfl rfl dL_account_2 ?_
  refine E_iload_n (j := 1) (i := 1) (q := 1) rfl rfl dL_account_3 ?_
  obtain ⟨q1, h2, hF⟩ := bd_inv hF
  have hM6 := T_X7_account hfl fl _ _ _ hv0 _ h2
  rcases xc_inv hF with ⟨e7, h5, hF⟩ | ⟨x3, h5, hF⟩
  · rw [h5] at hM6
    by_cases c11 : e7 = 1
    · have hF := ite_t hF c11
      subst c11
      refine E_callVX_c_n (i9 := 3) (na := 1) (As := [.int v1]) (S := [.int (0 : Int32), .ref v2]) (kc := 0) (ks := 0) (ci := 9) rfl rfl hv0 (shape_ord hv0).1 cwV_RL_102 [] (0, 9, 12, 13) [] rfl ⟨Nat.le_of_ble_eq_true rfl, Nat.le_of_ble_eq_true rfl⟩ (by decide) wT503 wN4 (by intro z9 hz9; cases hz9) (j9 := 3) rfl (Nat.le_of_ble_eq_true rfl) ⟨Nat.le_of_ble_eq_true rfl, Nat.le_of_ble_eq_true rfl⟩ hM6 rfl rfl (Nat.le_of_ble_eq_true rfl) dL_account_4 dL_account_12 ?_
      refine E_iconst (v := (1 : Int32)) rfl dL_account_13 ?_
      exact E_iret (Or.inr ⟨rfl, rfl⟩) rfl (by cases hF; exact hr) dL_account_14
    · have hF := ite_f hF c11
      cases hF
  · rw [h5] at hM6
    generalize q1.2 = s4 at hF hM6
    refine E_callVX (na := 1) (As := [.int v1]) (S := [.int (0 : Int32), .ref v2]) (kc := 0) (ks := 0) (ci := 9) rfl rfl hv0 (shape_ord hv0).1 cwV_RL_102 ⟨Nat.le_of_ble_eq_true rfl, Nat.le_of_ble_eq_true rfl⟩ hM6 rfl rfl rfl (Nat.le_of_ble_eq_true rfl) dL_account_4 ?_
    refine E_i2l dL_account_7 ?_
    obtain ⟨N8, h9, hF⟩ := bd_inv hF
    have h9 := aLen_inv h9
    obtain ⟨h10, hF⟩ := gd_inv hF
    refine E_last _ h9 (shape_ord h9).1 h10 dL_account_8 ?_
    refine E_goto (tgt := 15) rfl dL_account_9 ?_
    refine E_iconst (v := (0 : Int32)) rfl dL_account_15 ?_
    exact E_iret (Or.inr ⟨rfl, rfl⟩) rfl (by cases hF; exact hr) dL_account_16
set_option maxHeartbeats 4000000 in
set_option maxRecDepth 100000 in
theorem T_L_share {l : Launch} (hfl : l.stackTraces = false) (fl : Nat) (v0 : Nat) (v1 : Nat) (s : Mem) (hv0 : shape v0 = some (.inl 9)) (ρ : (Int32 × Mem)) (hF : F_L_share fl v0 v1 s = some ρ) : MetX l X_L_share NF s [.ref v0, .ref v1] (.inr (some (.int ρ.1)), NF, ρ.2) := by
  unfold F_L_share at hF
  obtain ⟨r, hr⟩ : ∃ r : Rs, r = (.inr (some (.int ρ.1)), NF, ρ.2) := ⟨_, rfl⟩
  rw [← hr]
  refine metH_of_E rfl (by decide) (by decide +kernel) hfl rfl (Nat.le_of_ble_eq_true rfl) ?_
  show E l X_L_share r false NF s 1 6 0 [(0, .ref v0), (1, .ref v1)] []
  refine E_aload_n (j := 1) (i := 1) (q := 1) rfl rfl dL_share_0 ?_
  refine E_iconst (v := (0 : Int32)) rfl dL_share_1 ?_
  refine E_aload_n (j := 0) (i := 0) (q := 0) rfl rfl dL_share_2 ?_
  obtain ⟨q1, h2, hF⟩ := bd_inv hF
  have hM6 := T_X7_share hfl fl _ _ hv0 _ h2
  rcases xc_inv hF with ⟨e7, h5, hF⟩ | ⟨x3, h5, hF⟩
  · rw [h5] at hM6
    by_cases c11 : e7 = 4
    · have hF := ite_t hF c11
      subst c11
      refine E_callVX_c_n (i9 := 2) (na := 0) (As := []) (S := [.int (0 : Int32), .ref v1]) (kc := 0) (ks := 0) (ci := 9) rfl rfl hv0 (shape_ord hv0).1 cwV_RL_105 [] (0, 7, 10, 109) [] rfl ⟨Nat.le_of_ble_eq_true rfl, Nat.le_of_ble_eq_true rfl⟩ (by decide) wT609 wN9 (by intro z9 hz9; cases hz9) (j9 := 2) rfl (Nat.le_of_ble_eq_true rfl) ⟨Nat.le_of_ble_eq_true rfl, Nat.le_of_ble_eq_true rfl⟩ hM6 rfl rfl (Nat.le_of_ble_eq_true rfl) dL_share_3 dL_share_10 ?_
      refine E_iconst (v := (1 : Int32)) rfl dL_share_11 ?_
      exact E_iret (Or.inr ⟨rfl, rfl⟩) rfl (by cases hF; exact hr) dL_share_12
    · have hF := ite_f hF c11
      cases hF
  · rw [h5] at hM6
    generalize q1.2 = s4 at hF hM6
    refine E_callVX (na := 0) (As := []) (S := [.int (0 : Int32), .ref v1]) (kc := 0) (ks := 0) (ci := 9) rfl rfl hv0 (shape_ord hv0).1 cwV_RL_105 ⟨Nat.le_of_ble_eq_true rfl, Nat.le_of_ble_eq_true rfl⟩ hM6 rfl rfl rfl (Nat.le_of_ble_eq_true rfl) dL_share_3 ?_
    obtain ⟨N8, h9, hF⟩ := bd_inv hF
    have h9 := aLen_inv h9
    obtain ⟨h10, hF⟩ := gd_inv hF
    refine E_dast _ h9 (shape_ord h9).1 h10 dL_share_6 ?_
    refine E_goto (tgt := 13) rfl dL_share_7 ?_
    refine E_iconst (v := (0 : Int32)) rfl dL_share_13 ?_
    exact E_iret (Or.inr ⟨rfl, rfl⟩) rfl (by cases hF; exact hr) dL_share_14
set_option maxHeartbeats 4000000 in
set_option maxRecDepth 100000 in
theorem T_L_undo {l : Launch} (hfl : l.stackTraces = false) (fl : Nat) (v0 : Nat) (v1 : Nat) (s : Mem) (hv0 : shape v0 = some (.inl 9)) (ρ : (Int32 × Mem)) (hF : F_L_undo fl v0 v1 s = some ρ) : MetX l X_L_undo NF s [.ref v0, .ref v1] (.inr (some (.int ρ.1)), NF, ρ.2) := by
  unfold F_L_undo at hF
  obtain ⟨r, hr⟩ : ∃ r : Rs, r = (.inr (some (.int ρ.1)), NF, ρ.2) := ⟨_, rfl⟩
  rw [← hr]
  refine metH_of_E rfl (by decide) (by decide +kernel) hfl rfl (Nat.le_of_ble_eq_true rfl) ?_
  show E l X_L_undo r false NF s 1 6 0 [(0, .ref v0), (1, .ref v1)] []
  refine E_aload_n (j := 1) (i := 1) (q := 1) rfl rfl dL_undo_0 ?_
  refine E_iconst (v := (0 : Int32)) rfl dL_undo_1 ?_
  refine E_aload_n (j := 0) (i := 0) (q := 0) rfl rfl dL_undo_2 ?_
  obtain ⟨q1, h2, hF⟩ := bd_inv hF
  have hM6 := T_X7_undo hfl fl _ _ hv0 _ h2
  rcases xc_inv hF with ⟨e7, h5, hF⟩ | ⟨x3, h5, hF⟩
  · rw [h5] at hM6
    by_cases c11 : e7 = 2
    · have hF := ite_t hF c11
      subst c11
      refine E_callVX_c_n (i9 := 2) (na := 0) (As := []) (S := [.int (0 : Int32), .ref v1]) (kc := 0) (ks := 0) (ci := 9) rfl rfl hv0 (shape_ord hv0).1 cwV_RL_111 [] (0, 8, 11, 15) [] rfl ⟨Nat.le_of_ble_eq_true rfl, Nat.le_of_ble_eq_true rfl⟩ (by decide) wT504 wN5 (by intro z9 hz9; cases hz9) (j9 := 2) rfl (Nat.le_of_ble_eq_true rfl) ⟨Nat.le_of_ble_eq_true rfl, Nat.le_of_ble_eq_true rfl⟩ hM6 rfl rfl (Nat.le_of_ble_eq_true rfl) dL_undo_3 dL_undo_11 ?_
      refine E_iconst (v := (1 : Int32)) rfl dL_undo_12 ?_
      exact E_iret (Or.inr ⟨rfl, rfl⟩) rfl (by cases hF; exact hr) dL_undo_13
    · have hF := ite_f hF c11
      cases hF
  · rw [h5] at hM6
    generalize q1.2 = s4 at hF hM6
    refine E_callVX (na := 0) (As := []) (S := [.int (0 : Int32), .ref v1]) (kc := 0) (ks := 0) (ci := 9) rfl rfl hv0 (shape_ord hv0).1 cwV_RL_111 ⟨Nat.le_of_ble_eq_true rfl, Nat.le_of_ble_eq_true rfl⟩ hM6 rfl rfl rfl (Nat.le_of_ble_eq_true rfl) dL_undo_3 ?_
    refine E_i2l dL_undo_6 ?_
    obtain ⟨N8, h9, hF⟩ := bd_inv hF
    have h9 := aLen_inv h9
    obtain ⟨h10, hF⟩ := gd_inv hF
    refine E_last _ h9 (shape_ord h9).1 h10 dL_undo_7 ?_
    refine E_goto (tgt := 14) rfl dL_undo_8 ?_
    refine E_iconst (v := (0 : Int32)) rfl dL_undo_14 ?_
    exact E_iret (Or.inr ⟨rfl, rfl⟩) rfl (by cases hF; exact hr) dL_undo_15
set_option maxHeartbeats 4000000 in
set_option maxRecDepth 100000 in
theorem T_L_restore {l : Launch} (hfl : l.stackTraces = false) (fl : Nat) (v0 : Nat) (s : Mem) (hv0 : shape v0 = some (.inl 9)) (ρ : (Int32 × Mem)) (hF : F_L_restore fl v0 s = some ρ) : MetX l X_L_restore NF s [.ref v0] (.inr (some (.int ρ.1)), NF, ρ.2) := by
  unfold F_L_restore at hF
  obtain ⟨r, hr⟩ : ∃ r : Rs, r = (.inr (some (.int ρ.1)), NF, ρ.2) := ⟨_, rfl⟩
  rw [← hr]
  refine metH_of_E rfl (by decide) (by decide +kernel) hfl rfl (Nat.le_of_ble_eq_true rfl) ?_
  show E l X_L_restore r false NF s 1 6 0 [(0, .ref v0)] []
  refine E_aload_n (j := 0) (i := 0) (q := 0) rfl rfl dL_restore_0 ?_
  obtain ⟨q1, h2, hF⟩ := bd_inv hF
  have hM5 := T_X7_restore hfl fl _ _ hv0 _ h2
  rcases xc_inv hF with ⟨e6, h4, hF⟩ | ⟨u9, h4, hF⟩
  · rw [h4] at hM5
    by_cases c7 : e6 = 2
    · have hF := ite_t hF c7
      subst c7
      refine E_callVX_c_n (i9 := 1) (na := 0) (As := []) (S := []) (kc := 0) (ks := 0) (ci := 9) rfl rfl hv0 (shape_ord hv0).1 cwV_RL_114 [] (0, 4, 7, 15) [] rfl ⟨Nat.le_of_ble_eq_true rfl, Nat.le_of_ble_eq_true rfl⟩ (by decide) wT504 wN5 (by intro z9 hz9; cases hz9) (j9 := 1) rfl (Nat.le_of_ble_eq_true rfl) ⟨Nat.le_of_ble_eq_true rfl, Nat.le_of_ble_eq_true rfl⟩ hM5 rfl rfl (Nat.le_of_ble_eq_true rfl) dL_restore_1 dL_restore_7 ?_
      refine E_iconst (v := (1 : Int32)) rfl dL_restore_8 ?_
      exact E_iret (Or.inr ⟨rfl, rfl⟩) rfl (by cases hF; exact hr) dL_restore_9
    · have hF := ite_f hF c7
      cases hF
  · rw [h4] at hM5
    generalize q1.2 = s3 at hF hM5
    refine E_callVX (na := 0) (As := []) (S := []) (kc := 0) (ks := 0) (ci := 9) rfl rfl hv0 (shape_ord hv0).1 cwV_RL_114 ⟨Nat.le_of_ble_eq_true rfl, Nat.le_of_ble_eq_true rfl⟩ hM5 rfl rfl rfl (Nat.le_of_ble_eq_true rfl) dL_restore_1 ?_
    refine E_goto (tgt := 10) rfl dL_restore_4 ?_
    refine E_iconst (v := (0 : Int32)) rfl dL_restore_10 ?_
    exact E_iret (Or.inr ⟨rfl, rfl⟩) rfl (by cases hF; exact hr) dL_restore_11
