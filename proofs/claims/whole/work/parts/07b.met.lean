set_option maxHeartbeats 4000000 in
set_option maxRecDepth 100000 in
theorem T_J9_min_7cf53 {l : Launch} (hfl : l.stackTraces = false) (fl : Nat) (v0 : Int32) (v1 : Int32) (s : Mem) (ρ : Int32) (hF : F_J9_min_7cf53 fl v0 v1 s = some ρ) : MetN l X_J9_min_7cf53 false NF s [.int v0, .int v1] (.inr (some (.int ρ)), NF, s) := by
  unfold F_J9_min_7cf53 at hF
  obtain ⟨r, hr⟩ : ∃ r : Rs, r = (.inr (some (.int ρ)), NF, s) := ⟨_, rfl⟩
  rw [← hr]
  refine met_of_EF rfl rfl (by decide +kernel) hfl rfl (Nat.le_of_ble_eq_true rfl) ?_
  show E l X_J9_min_7cf53 r false NF s 0 0 0 [(0, .int v0), (1, .int v1)] []
  refine E_iload_n (j := 0) (i := 0) (q := 0) rfl rfl dJ9_min_7cf53_0 ?_
  refine E_iload_n (j := 1) (i := 1) (q := 1) rfl rfl dJ9_min_7cf53_1 ?_
  refine E_icmp_gt (tgt := 9) rfl dJ9_min_7cf53_2 (fun c1 => ?_) (fun c1 => ?_)
  · have hF := ite_t hF c1
    refine E_iload_n (j := 1) (i := 1) (q := 1) rfl rfl dJ9_min_7cf53_9 ?_
    exact E_iret (Or.inl rfl) rfl (by cases hF; exact hr) dJ9_min_7cf53_10
  · have hF := ite_f hF c1
    refine E_iload_n (j := 0) (i := 0) (q := 0) rfl rfl dJ9_min_7cf53_5 ?_
    refine E_goto (tgt := 10) rfl dJ9_min_7cf53_6 ?_
    exact E_iret (Or.inl rfl) rfl (by cases hF; exact hr) dJ9_min_7cf53_10
set_option maxHeartbeats 4000000 in
set_option maxRecDepth 100000 in
theorem T_X2_keep_35 {l : Launch} (hfl : l.stackTraces = false) (fl : Nat) {r : Rs} {ρ : Mem} (hr : r = (.inr none, NF, ρ)) (v0 : Nat) (w0 : Nat) (w1 : Int32) (s : Mem) (hv0 : shape v0 = some (.inl 4)) (hw0 : shape w0 = some (.inl 4)) (hF : B_X2_keep_35 fl v0 w0 w1 s = some ρ) : E l X_X2_keep r false NF s 0 0 35 [(0, .ref v0)] [.int w1, .ref w0] := by
  unfold B_X2_keep_35 at hF
  refine pf_RX2_18 rfl hw0 (shape_ord hw0).1 dX2_keep_35 ?_
  obtain ⟨m1, e2, hF⟩ := nx_inv hF
  refine E_mem e2 ?_
  refine E_aload_n (j := 0) (i := 0) (q := 0) rfl rfl dX2_keep_38 ?_
  refine E_aload_n (j := 0) (i := 0) (q := 0) rfl rfl dX2_keep_39 ?_
  refine gf_RX2_26 rfl hv0 (shape_ord hv0).1 dX2_keep_40 ?_
  refine E_iconst (v := (1 : Int32)) rfl dX2_keep_43 ?_
  refine E_iadd dX2_keep_44 ?_
  refine E_bipush (v := (8 : Int32)) rfl dX2_keep_45 ?_
  obtain ⟨q3, h4, hF⟩ := bd_inv hF
  refine E_callS (na := 2) (As := [.int ((gI m1 v0 2) + (1 : Int32)), .int (8 : Int32)]) (S := [.ref v0]) (kc := 0) (ks := 0) cwS_RX2_29 ⟨Nat.le_of_ble_eq_true rfl, Nat.le_of_ble_eq_true rfl⟩ (T_J9_min_7cf53 hfl fl _ _ _  _ h4) rfl rfl rfl (Nat.le_of_ble_eq_true rfl) dX2_keep_47 ?_
  refine pf_RX2_26 rfl hv0 (shape_ord hv0).1 dX2_keep_50 ?_
  obtain ⟨m5, e6, hF⟩ := nx_inv hF
  refine E_mem e6 ?_
  exact E_vret (Or.inl rfl) rfl (by cases hF; exact hr) dX2_keep_53
set_option maxHeartbeats 4000000 in
set_option maxRecDepth 100000 in
theorem T_X2_keep {l : Launch} (hfl : l.stackTraces = false) (fl : Nat) (v0 : Nat) (v1 : Nat) (s : Mem) (hv0 : shape v0 = some (.inl 4)) (hv1 : shape v1 = some (.inl 3)) (ρ : Mem) (hF : F_X2_keep fl v0 v1 s = some ρ) : MetN l X_X2_keep false NF s [.ref v0, .ref v1] (.inr none, NF, ρ) := by
  unfold F_X2_keep at hF
  obtain ⟨r, hr⟩ : ∃ r : Rs, r = (.inr none, NF, ρ) := ⟨_, rfl⟩
  rw [← hr]
  refine met_of_E rfl rfl (by decide +kernel) hfl rfl (Nat.le_of_ble_eq_true rfl) ?_
  show E l X_X2_keep r false NF s 0 0 0 [(0, .ref v0), (1, .ref v1)] []
  refine E_aload_n (j := 0) (i := 0) (q := 0) rfl rfl dX2_keep_0 ?_
  obtain ⟨r7, h8, hF⟩ := bd_inv hF
  have h8 := ldA_inv h8
  refine gf_RX2_11 rfl hv0 (shape_ord hv0).1 h8.1 dX2_keep_1 ?_
  refine E_aload_n (j := 0) (i := 0) (q := 0) rfl rfl dX2_keep_4 ?_
  refine gf_RX2_18 rfl hv0 (shape_ord hv0).1 dX2_keep_5 ?_
  obtain ⟨h9, hF⟩ := gd_inv hF
  obtain ⟨r10, h11, hF⟩ := bd_inv hF
  have h11 := ldO_inv h11
  refine E_aald _ ⟨Nat.le_of_ble_eq_true rfl, Nat.le_of_ble_eq_true rfl⟩ h8.2 (shape_ord h8.2).1 h9 h11.1 dX2_keep_8 ?_
  refine E_aload_n (j := 1) (i := 1) (q := 1) rfl rfl dX2_keep_9 ?_
  obtain ⟨q12, h13, hF⟩ := bd_inv hF
  refine E_callV (na := 1) (As := [.ref v1]) (S := []) (kc := 0) (ks := 0) (ci := 3) rfl rfl h11.2 (shape_ord h11.2).1 cwV_RX2_22 ⟨Nat.le_of_ble_eq_true rfl, Nat.le_of_ble_eq_true rfl⟩ (T_X1_copyFrom hfl fl _ _ _ h11.2 hv1 _ h13) rfl rfl rfl (Nat.le_of_ble_eq_true rfl) dX2_keep_10 ?_
  refine E_aload_n (j := 0) (i := 0) (q := 0) rfl rfl dX2_keep_13 ?_
  refine E_aload_n (j := 0) (i := 0) (q := 0) rfl rfl dX2_keep_14 ?_
  refine gf_RX2_18 rfl hv0 (shape_ord hv0).1 dX2_keep_15 ?_
  refine E_iconst (v := (1 : Int32)) rfl dX2_keep_18 ?_
  refine E_iadd dX2_keep_19 ?_
  refine E_bipush (v := (8 : Int32)) rfl dX2_keep_20 ?_
  refine E_icmp_ge (tgt := 34) rfl dX2_keep_22 (fun c14 => ?_) (fun c14 => ?_)
  · have hF := ite_t hF c14
    refine E_iconst (v := (0 : Int32)) rfl dX2_keep_34 ?_
    refine E_sub [0] rfl ?_
    exact T_X2_keep_35 hfl fl hr  _ _ _ _ hv0 hv0 hF
  · have hF := ite_f hF c14
    refine E_aload_n (j := 0) (i := 0) (q := 0) rfl rfl dX2_keep_25 ?_
    refine gf_RX2_18 rfl hv0 (shape_ord hv0).1 dX2_keep_26 ?_
    refine E_iconst (v := (1 : Int32)) rfl dX2_keep_29 ?_
    refine E_iadd dX2_keep_30 ?_
    refine E_goto (tgt := 35) rfl dX2_keep_31 ?_
    refine E_sub [0] rfl ?_
    exact T_X2_keep_35 hfl fl hr  _ _ _ _ hv0 hv0 hF
set_option maxHeartbeats 4000000 in
set_option maxRecDepth 100000 in
theorem T_X2_takeBack_19 {l : Launch} (hfl : l.stackTraces = false) (fl : Nat) {r : Rs} {ρ : Mem} (hr : r = (.inr none, NF, ρ)) (v0 : Nat) (v1 : Nat) (w0 : Nat) (w1 : Int32) (s : Mem) (hv0 : shape v0 = some (.inl 4)) (hv1 : shape v1 = some (.inl 3)) (hw0 : shape w0 = some (.inl 4)) (hF : B_X2_takeBack_19 fl v0 v1 w0 w1 s = some ρ) : E l X_X2_takeBack r false NF s 0 0 19 [(0, .ref v0), (1, .ref v1)] [.int w1, .ref w0] := by
  unfold B_X2_takeBack_19 at hF
  refine pf_RX2_18 rfl hw0 (shape_ord hw0).1 dX2_takeBack_19 ?_
  obtain ⟨m1, e2, hF⟩ := nx_inv hF
  refine E_mem e2 ?_
  refine E_aload_n (j := 1) (i := 1) (q := 1) rfl rfl dX2_takeBack_22 ?_
  refine E_aload_n (j := 0) (i := 0) (q := 0) rfl rfl dX2_takeBack_23 ?_
  obtain ⟨r3, h4, hF⟩ := bd_inv hF
  have h4 := ldA_inv h4
  refine gf_RX2_11 rfl hv0 (shape_ord hv0).1 h4.1 dX2_takeBack_24 ?_
  refine E_aload_n (j := 0) (i := 0) (q := 0) rfl rfl dX2_takeBack_27 ?_
  refine gf_RX2_18 rfl hv0 (shape_ord hv0).1 dX2_takeBack_28 ?_
  obtain ⟨h5, hF⟩ := gd_inv hF
  obtain ⟨r6, h7, hF⟩ := bd_inv hF
  have h7 := ldO_inv h7
  refine E_aald _ ⟨Nat.le_of_ble_eq_true rfl, Nat.le_of_ble_eq_true rfl⟩ h4.2 (shape_ord h4.2).1 h5 h7.1 dX2_takeBack_31 ?_
  obtain ⟨q8, h9, hF⟩ := bd_inv hF
  refine E_callV (na := 1) (As := [.ref r6]) (S := []) (kc := 0) (ks := 0) (ci := 3) rfl rfl hv1 (shape_ord hv1).1 cwV_RX2_22 ⟨Nat.le_of_ble_eq_true rfl, Nat.le_of_ble_eq_true rfl⟩ (T_X1_copyFrom hfl fl _ _ _ hv1 h7.2 _ h9) rfl rfl rfl (Nat.le_of_ble_eq_true rfl) dX2_takeBack_32 ?_
  refine E_aload_n (j := 0) (i := 0) (q := 0) rfl rfl dX2_takeBack_35 ?_
  refine E_dup rfl dX2_takeBack_36 ?_
  refine gf_RX2_26 rfl hv0 (shape_ord hv0).1 dX2_takeBack_37 ?_
  refine E_iconst (v := (1 : Int32)) rfl dX2_takeBack_40 ?_
  refine E_isub dX2_takeBack_41 ?_
  refine pf_RX2_26 rfl hv0 (shape_ord hv0).1 dX2_takeBack_42 ?_
  obtain ⟨m10, e11, hF⟩ := nx_inv hF
  refine E_mem e11 ?_
  exact E_vret (Or.inl rfl) rfl (by cases hF; exact hr) dX2_takeBack_45
set_option maxHeartbeats 4000000 in
set_option maxRecDepth 100000 in
theorem T_X2_takeBack {l : Launch} (hfl : l.stackTraces = false) (fl : Nat) (v0 : Nat) (v1 : Nat) (s : Mem) (hv0 : shape v0 = some (.inl 4)) (hv1 : shape v1 = some (.inl 3)) (ρ : Mem) (hF : F_X2_takeBack fl v0 v1 s = some ρ) : MetN l X_X2_takeBack false NF s [.ref v0, .ref v1] (.inr none, NF, ρ) := by
  unfold F_X2_takeBack at hF
  obtain ⟨r, hr⟩ : ∃ r : Rs, r = (.inr none, NF, ρ) := ⟨_, rfl⟩
  rw [← hr]
  refine met_of_E rfl rfl (by decide +kernel) hfl rfl (Nat.le_of_ble_eq_true rfl) ?_
  show E l X_X2_takeBack r false NF s 0 0 0 [(0, .ref v0), (1, .ref v1)] []
  refine E_aload_n (j := 0) (i := 0) (q := 0) rfl rfl dX2_takeBack_0 ?_
  refine E_aload_n (j := 0) (i := 0) (q := 0) rfl rfl dX2_takeBack_1 ?_
  refine gf_RX2_18 rfl hv0 (shape_ord hv0).1 dX2_takeBack_2 ?_
  refine E_if_le (tgt := 17) rfl dX2_takeBack_5 (fun c12 => ?_) (fun c12 => ?_)
  · have hF := ite_t hF c12
    refine E_bipush (v := (7 : Int32)) rfl dX2_takeBack_17 ?_
    refine E_sub [0, 1] rfl ?_
    exact T_X2_takeBack_19 hfl fl hr  _ _ _ _ _ hv0 hv1 hv0 hF
  · have hF := ite_f hF c12
    refine E_aload_n (j := 0) (i := 0) (q := 0) rfl rfl dX2_takeBack_8 ?_
    refine gf_RX2_18 rfl hv0 (shape_ord hv0).1 dX2_takeBack_9 ?_
    refine E_iconst (v := (1 : Int32)) rfl dX2_takeBack_12 ?_
    refine E_isub dX2_takeBack_13 ?_
    refine E_goto (tgt := 19) rfl dX2_takeBack_14 ?_
    refine E_sub [0, 1] rfl ?_
    exact T_X2_takeBack_19 hfl fl hr  _ _ _ _ _ hv0 hv1 hv0 hF
set_option maxHeartbeats 4000000 in
set_option maxRecDepth 100000 in
theorem T_X7_stayOf {l : Launch} (hfl : l.stackTraces = false) (fl : Nat) (v0 : Int32) (v1 : Int32) (s : Mem) (ρ : Int64) (hF : F_X7_stayOf fl v0 v1 s = some ρ) : MetN l X_X7_stayOf false NF s [.int v0, .int v1] (.inr (some (.long ρ)), NF, s) := by
  unfold F_X7_stayOf at hF
  obtain ⟨r, hr⟩ : ∃ r : Rs, r = (.inr (some (.long ρ)), NF, s) := ⟨_, rfl⟩
  rw [← hr]
  refine met_of_E rfl rfl (by decide +kernel) hfl rfl (Nat.le_of_ble_eq_true rfl) ?_
  show E l X_X7_stayOf r false NF s 0 0 0 [(0, .int v0), (1, .int v1)] []
  refine E_lconst (v := (1 : Int64)) rfl dX7_stayOf_0 ?_
  refine E_iload_n (j := 1) (i := 1) (q := 1) rfl rfl dX7_stayOf_1 ?_
  refine E_lshl dX7_stayOf_2 ?_
  refine E_lconst (v := (1 : Int64)) rfl dX7_stayOf_3 ?_
  refine E_lsub dX7_stayOf_4 ?_
  refine E_iload_n (j := 0) (i := 0) (q := 0) rfl rfl dX7_stayOf_5 ?_
  refine E_lshl dX7_stayOf_6 ?_
  exact E_lret (Or.inl rfl) rfl (by cases hF; exact hr) dX7_stayOf_7
set_option maxHeartbeats 4000000 in
set_option maxRecDepth 100000 in
theorem T_X3_describe {l : Launch} (hfl : l.stackTraces = false) (fl : Nat) (v0 : Nat) (v1 : Int32) (v2 : Int32) (v3 : Int32) (v4 : Int32) (v5 : Int32) (v6 : Int32) (s : Mem) (hv0 : shape v0 = some (.inl 5)) (ρ : Mem) (hF : F_X3_describe fl v0 v1 v2 v3 v4 v5 v6 s = some ρ) : MetN l X_X3_describe false NF s [.ref v0, .int v1, .int v2, .int v3, .int v4, .int v5, .int v6] (.inr none, NF, ρ) := by
  unfold F_X3_describe at hF
  obtain ⟨r, hr⟩ : ∃ r : Rs, r = (.inr none, NF, ρ) := ⟨_, rfl⟩
  rw [← hr]
  refine met_of_E rfl rfl (by decide +kernel) hfl rfl (Nat.le_of_ble_eq_true rfl) ?_
  show E l X_X3_describe r false NF s 0 0 0 [(0, .ref v0), (1, .int v1), (2, .int v2), (3, .int v3), (4, .int v4), (5, .int v5), (6, .int v6)] []
  refine E_aload_n (j := 0) (i := 0) (q := 0) rfl rfl dX3_describe_0 ?_
  refine E_iload_n (j := 1) (i := 1) (q := 1) rfl rfl dX3_describe_1 ?_
  refine pf_RX3_9 rfl hv0 (shape_ord hv0).1 dX3_describe_2 ?_
  obtain ⟨m1, e2, hF⟩ := nx_inv hF
  refine E_mem e2 ?_
  refine E_aload_n (j := 0) (i := 0) (q := 0) rfl rfl dX3_describe_5 ?_
  refine E_iload_n (j := 2) (i := 2) (q := 2) rfl rfl dX3_describe_6 ?_
  refine pf_RX3_15 rfl hv0 (shape_ord hv0).1 dX3_describe_7 ?_
  obtain ⟨m3, e4, hF⟩ := nx_inv hF
  refine E_mem e4 ?_
  refine E_aload_n (j := 0) (i := 0) (q := 0) rfl rfl dX3_describe_10 ?_
  refine E_iload_n (j := 3) (i := 3) (q := 3) rfl rfl dX3_describe_11 ?_
  refine pf_RX3_18 rfl hv0 (shape_ord hv0).1 dX3_describe_12 ?_
  obtain ⟨m5, e6, hF⟩ := nx_inv hF
  refine E_mem e6 ?_
  refine E_aload_n (j := 0) (i := 0) (q := 0) rfl rfl dX3_describe_15 ?_
  refine E_iload (q := 4) rfl dX3_describe_16 ?_
  refine pf_RX3_21 rfl hv0 (shape_ord hv0).1 dX3_describe_18 ?_
  obtain ⟨m7, e8, hF⟩ := nx_inv hF
  refine E_mem e8 ?_
  refine E_aload_n (j := 0) (i := 0) (q := 0) rfl rfl dX3_describe_21 ?_
  refine E_iload (q := 5) rfl dX3_describe_22 ?_
  refine pf_RX3_24 rfl hv0 (shape_ord hv0).1 dX3_describe_24 ?_
  obtain ⟨m9, e10, hF⟩ := nx_inv hF
  refine E_mem e10 ?_
  refine E_aload_n (j := 0) (i := 0) (q := 0) rfl rfl dX3_describe_27 ?_
  refine E_iload (q := 6) rfl dX3_describe_28 ?_
  refine pf_RX3_27 rfl hv0 (shape_ord hv0).1 dX3_describe_30 ?_
  obtain ⟨m11, e12, hF⟩ := nx_inv hF
  refine E_mem e12 ?_
  refine E_aload_n (j := 0) (i := 0) (q := 0) rfl rfl dX3_describe_33 ?_
  refine E_iload (q := 5) rfl dX3_describe_34 ?_
  refine E_iload (q := 6) rfl dX3_describe_36 ?_
  obtain ⟨q13, h14, hF⟩ := bd_inv hF
  refine E_callSN (na := 2) (As := [.int v5, .int v6]) (S := [.ref v0]) (kc := 0) (ks := 0) cwNS_RX3_30 ⟨Nat.le_of_ble_eq_true rfl, Nat.le_of_ble_eq_true rfl⟩ (T_X7_stayOf hfl fl _ _ _  _ h14) rfl rfl rfl (Nat.le_of_ble_eq_true rfl) dX3_describe_38 ?_
  refine pf_RX3_34 rfl hv0 (shape_ord hv0).1 dX3_describe_41 ?_
  obtain ⟨m15, e16, hF⟩ := nx_inv hF
  refine E_mem e16 ?_
  refine E_aload_n (j := 0) (i := 0) (q := 0) rfl rfl dX3_describe_44 ?_
  refine E_iconst (v := (-1 : Int32)) rfl dX3_describe_45 ?_
  refine pf_RX3_38 rfl hv0 (shape_ord hv0).1 dX3_describe_46 ?_
  obtain ⟨m17, e18, hF⟩ := nx_inv hF
  refine E_mem e18 ?_
  refine E_aload_n (j := 0) (i := 0) (q := 0) rfl rfl dX3_describe_49 ?_
  refine E_iconst (v := (0 : Int32)) rfl dX3_describe_50 ?_
  refine pf_RX3_41 rfl hv0 (shape_ord hv0).1 dX3_describe_51 ?_
  obtain ⟨m19, e20, hF⟩ := nx_inv hF
  refine E_mem e20 ?_
  refine E_aload_n (j := 0) (i := 0) (q := 0) rfl rfl dX3_describe_54 ?_
  refine E_iconst (v := (0 : Int32)) rfl dX3_describe_55 ?_
  refine pf_RX3_44 rfl hv0 (shape_ord hv0).1 dX3_describe_56 ?_
  obtain ⟨m21, e22, hF⟩ := nx_inv hF
  refine E_mem e22 ?_
  refine E_aload_n (j := 0) (i := 0) (q := 0) rfl rfl dX3_describe_59 ?_
  refine E_iconst (v := (0 : Int32)) rfl dX3_describe_60 ?_
  refine pf_RX3_47 rfl (by decide) hv0 (shape_ord hv0).1 dX3_describe_61 ?_
  obtain ⟨m23, e24, hF⟩ := nx_inv hF
  refine E_mem e24 ?_
  exact E_vret (Or.inl rfl) rfl (by cases hF; exact hr) dX3_describe_64
set_option maxHeartbeats 4000000 in
set_option maxRecDepth 100000 in
theorem T_X3_feeAt {l : Launch} (hfl : l.stackTraces = false) (fl : Nat) (v0 : Nat) (v1 : Int32) (s : Mem) (hv0 : shape v0 = some (.inl 5)) (ρ : Int32) (hF : F_X3_feeAt fl v0 v1 s = some ρ) : MetN l X_X3_feeAt false NF s [.ref v0, .int v1] (.inr (some (.int ρ)), NF, s) := by
  unfold F_X3_feeAt at hF
  obtain ⟨r, hr⟩ : ∃ r : Rs, r = (.inr (some (.int ρ)), NF, s) := ⟨_, rfl⟩
  rw [← hr]
  refine met_of_E rfl rfl (by decide +kernel) hfl rfl (Nat.le_of_ble_eq_true rfl) ?_
  show E l X_X3_feeAt r false NF s 0 0 0 [(0, .ref v0), (1, .int v1)] []
  refine E_aload_n (j := 0) (i := 0) (q := 0) rfl rfl dX3_feeAt_0 ?_
  refine gf_RX3_24 rfl hv0 (shape_ord hv0).1 dX3_feeAt_1 ?_
  refine E_iload_n (j := 1) (i := 1) (q := 1) rfl rfl dX3_feeAt_4 ?_
  refine E_isub dX3_feeAt_5 ?_
  refine E_istore_n (j := 2) (i := 2) (L' := [(2, .int ((gI s v0 4) - v1)), (0, .ref v0), (1, .int v1)]) rfl (Nat.le_of_ble_eq_true rfl) rfl dX3_feeAt_6 ?_
  refine E_iload_n (j := 2) (i := 2) (q := 0) rfl rfl dX3_feeAt_7 ?_
  refine E_bipush (v := (7 : Int32)) rfl dX3_feeAt_8 ?_
  refine E_icmp_lt (tgt := 15) rfl dX3_feeAt_10 (fun c1 => ?_) (fun c1 => ?_)
  · have hF := ite_t hF c1
    refine E_iload_n (j := 2) (i := 2) (q := 0) rfl rfl dX3_feeAt_15 ?_
    refine E_iconst (v := (3 : Int32)) rfl dX3_feeAt_16 ?_
    refine E_icmp_lt (tgt := 29) rfl dX3_feeAt_17 (fun c2 => ?_) (fun c2 => ?_)
    · have hF := ite_t hF c2
      refine E_aload_n (j := 0) (i := 0) (q := 1) rfl rfl dX3_feeAt_29 ?_
      refine gf_RX3_41 rfl hv0 (shape_ord hv0).1 dX3_feeAt_30 ?_
      exact E_iret (Or.inl rfl) rfl (by cases hF; exact hr) dX3_feeAt_33
    · have hF := ite_f hF c2
      refine E_aload_n (j := 0) (i := 0) (q := 1) rfl rfl dX3_feeAt_20 ?_
      refine gf_RX3_41 rfl hv0 (shape_ord hv0).1 dX3_feeAt_21 ?_
      refine E_iconst (v := (2 : Int32)) rfl dX3_feeAt_24 ?_
      refine E_idiv (by decide) dX3_feeAt_25 ?_
      refine E_goto (tgt := 33) rfl dX3_feeAt_26 ?_
      exact E_iret (Or.inl rfl) rfl (by cases hF; exact hr) dX3_feeAt_33
  · have hF := ite_f hF c1
    refine E_iconst (v := (0 : Int32)) rfl dX3_feeAt_13 ?_
    exact E_iret (Or.inl rfl) rfl (by cases hF; exact hr) dX3_feeAt_14
set_option maxHeartbeats 4000000 in
set_option maxRecDepth 100000 in
theorem T_X5_addLoad_5 {l : Launch} (hfl : l.stackTraces = false) (fl : Nat) {r : Rs} {ρ : Mem} (hr : r = (.inr none, NF, ρ)) : ∀ (n : Nat) (v0 : Nat) (v1 : Int32) (v2 : Nat) (v3 : Int32) (s : Mem) (hv0 : shape v0 = some (.inl 7)) (hv2 : shape v2 = some (.inl 5)), B_X5_addLoad_5 fl n v0 v1 v2 v3 s = some ρ → E l X_X5_addLoad r false NF s 0 0 5 [(0, .ref v0), (1, .int v1), (2, .ref v2), (3, .int v3)] [] := by
  intro n
  induction n with
  | zero =>
    intro v0 v1 v2 v3 s hv0 hv2 hF
    cases hF
  | succ n ih =>
    intro v0 v1 v2 v3 s hv0 hv2 hF
    refine E_iload_n (j := 3) (i := 3) (q := 3) rfl rfl dX5_addLoad_5 ?_
    refine E_aload_n (j := 2) (i := 2) (q := 2) rfl rfl dX5_addLoad_6 ?_
    refine gf_RX5_114 rfl hv2 (shape_ord hv2).1 dX5_addLoad_7 ?_
    refine E_aload_n (j := 2) (i := 2) (q := 2) rfl rfl dX5_addLoad_10 ?_
    refine gf_RX5_117 rfl hv2 (shape_ord hv2).1 dX5_addLoad_11 ?_
    refine E_iadd dX5_addLoad_14 ?_
    refine E_icmp_ge (tgt := 42) rfl dX5_addLoad_15 (fun c1 => ?_) (fun c1 => ?_)
    · have hF := ite_t hF c1
      exact E_vret (Or.inl rfl) rfl (by cases hF; exact hr) dX5_addLoad_42
    · have hF := ite_f hF c1
      refine E_aload_n (j := 0) (i := 0) (q := 0) rfl rfl dX5_addLoad_18 ?_
      obtain ⟨r2, h3, hF⟩ := bd_inv hF
      have h3 := ldA_inv h3
      refine gf_RX5_55 rfl hv0 (shape_ord hv0).1 h3.1 dX5_addLoad_19 ?_
      refine E_iload_n (j := 1) (i := 1) (q := 1) rfl rfl dX5_addLoad_22 ?_
      refine E_bipush (v := (60 : Int32)) rfl dX5_addLoad_23 ?_
      refine E_imul dX5_addLoad_25 ?_
      refine E_iload_n (j := 3) (i := 3) (q := 3) rfl rfl dX5_addLoad_26 ?_
      refine E_iadd dX5_addLoad_27 ?_
      refine E_dup2 rfl rfl dX5_addLoad_28 ?_
      obtain ⟨h4, hF⟩ := gd_inv hF
      refine E_iald _ h3.2 (shape_ord h3.2).1 h4 dX5_addLoad_29 ?_
      refine E_aload_n (j := 2) (i := 2) (q := 2) rfl rfl dX5_addLoad_30 ?_
      refine gf_RX5_120 rfl hv2 (shape_ord hv2).1 dX5_addLoad_31 ?_
      refine E_iadd dX5_addLoad_34 ?_
      obtain ⟨h5, hF⟩ := gd_inv hF
      refine E_iast _ h3.2 (shape_ord h3.2).1 h5 dX5_addLoad_35 ?_
      obtain ⟨m6, e7, hF⟩ := nx_inv hF
      refine E_mem e7 ?_
      refine E_iinc (q := 3) (v := (v3 + (1 : Int32))) (L' := [(3, .int (v3 + (1 : Int32))), (0, .ref v0), (1, .int v1), (2, .ref v2)]) rfl rfl (Nat.le_of_ble_eq_true rfl) rfl dX5_addLoad_36 ?_
      refine E_goto (tgt := 5) rfl dX5_addLoad_39 ?_
      refine E_sub [1, 2, 3, 0] rfl ?_
      exact ih _ _ _ _ _ hv0 hv2 hF
set_option maxHeartbeats 4000000 in
set_option maxRecDepth 100000 in
theorem T_X5_addLoad {l : Launch} (hfl : l.stackTraces = false) (fl : Nat) (v0 : Nat) (v1 : Int32) (v2 : Nat) (s : Mem) (hv0 : shape v0 = some (.inl 7)) (hv2 : shape v2 = some (.inl 5)) (ρ : Mem) (hF : F_X5_addLoad fl v0 v1 v2 s = some ρ) : MetN l X_X5_addLoad false NF s [.ref v0, .int v1, .ref v2] (.inr none, NF, ρ) := by
  unfold F_X5_addLoad at hF
  obtain ⟨r, hr⟩ : ∃ r : Rs, r = (.inr none, NF, ρ) := ⟨_, rfl⟩
  rw [← hr]
  refine met_of_E rfl rfl (by decide +kernel) hfl rfl (Nat.le_of_ble_eq_true rfl) ?_
  show E l X_X5_addLoad r false NF s 0 0 0 [(0, .ref v0), (1, .int v1), (2, .ref v2)] []
  refine E_aload_n (j := 2) (i := 2) (q := 2) rfl rfl dX5_addLoad_0 ?_
  refine gf_RX5_114 rfl hv2 (shape_ord hv2).1 dX5_addLoad_1 ?_
  refine E_istore_n (j := 3) (i := 3) (L' := [(3, .int (gI s v2 4)), (0, .ref v0), (1, .int v1), (2, .ref v2)]) rfl (Nat.le_of_ble_eq_true rfl) rfl dX5_addLoad_4 ?_
  refine E_sub [1, 2, 3, 0] rfl ?_
  exact T_X5_addLoad_5 hfl fl hr  fl _ _ _ _ _ hv0 hv2 hF
set_option maxHeartbeats 4000000 in
set_option maxRecDepth 100000 in
theorem T_X5_survey_113 {l : Launch} (hfl : l.stackTraces = false) (fl : Nat) {r : Rs} {ρ : Mem} (hr : r = (.inr none, NF, ρ)) {k60 : Nat → Int32 → Mem → Option Mem} (hk60 : ∀ (v0 : Nat) (v1 : Int32) (s : Mem) (hv0 : shape v0 = some (.inl 7)), k60 v0 v1 s = some ρ → E l X_X5_survey r false NF s 0 0 60 [(0, .ref v0), (1, .int v1)] []) (v0 : Nat) (v1 : Int32) (s : Mem) (hv0 : shape v0 = some (.inl 7)) (hF : B_X5_survey_113 k60 fl v0 v1 s = some ρ) : E l X_X5_survey r false NF s 0 0 113 [(0, .ref v0), (1, .int v1)] [] := by
  unfold B_X5_survey_113 at hF
  refine E_iinc (q := 1) (v := (v1 + (1 : Int32))) (L' := [(1, .int (v1 + (1 : Int32))), (0, .ref v0)]) rfl rfl (Nat.le_of_ble_eq_true rfl) rfl dX5_survey_113 ?_
  refine E_goto (tgt := 60) rfl dX5_survey_116 ?_
  refine E_sub [1, 0] rfl ?_
  exact hk60 _ _ _ hv0 hF
set_option maxHeartbeats 4000000 in
set_option maxRecDepth 100000 in
theorem T_X5_survey_60 {l : Launch} (hfl : l.stackTraces = false) (fl : Nat) {r : Rs} {ρ : Mem} (hr : r = (.inr none, NF, ρ)) : ∀ (n : Nat) (v0 : Nat) (v1 : Int32) (s : Mem) (hv0 : shape v0 = some (.inl 7)), B_X5_survey_60 fl n v0 v1 s = some ρ → E l X_X5_survey r false NF s 0 0 60 [(0, .ref v0), (1, .int v1)] [] := by
  intro n
  induction n with
  | zero =>
    intro v0 v1 s hv0 hF
    cases hF
  | succ n ih =>
    intro v0 v1 s hv0 hF
    refine E_iload_n (j := 1) (i := 1) (q := 1) rfl rfl dX5_survey_60 ?_
    refine E_aload_n (j := 0) (i := 0) (q := 0) rfl rfl dX5_survey_61 ?_
    obtain ⟨r1, h2, hF⟩ := bd_inv hF
    have h2 := ldO_inv h2
    refine gf_RX5_12 rfl hv0 (shape_ord hv0).1 h2.1 dX5_survey_62 ?_
    refine gf_RX5_93 rfl h2.2 (shape_ord h2.2).1 dX5_survey_65 ?_
    refine E_icmp_ge (tgt := 119) rfl dX5_survey_68 (fun c3 => ?_) (fun c3 => ?_)
    · have hF := ite_t hF c3
      exact E_vret (Or.inl rfl) rfl (by cases hF; exact hr) dX5_survey_119
    · have hF := ite_f hF c3
      refine E_aload_n (j := 0) (i := 0) (q := 0) rfl rfl dX5_survey_71 ?_
      obtain ⟨r4, h5, hF⟩ := bd_inv hF
      have h5 := ldO_inv h5
      refine gf_RX5_12 rfl hv0 (shape_ord hv0).1 h5.1 dX5_survey_72 ?_
      obtain ⟨r6, h7, hF⟩ := bd_inv hF
      have h7 := ldA_inv h7
      refine gf_RX5_96 rfl h5.2 (shape_ord h5.2).1 h7.1 dX5_survey_75 ?_
      refine E_iload_n (j := 1) (i := 1) (q := 1) rfl rfl dX5_survey_78 ?_
      obtain ⟨h8, hF⟩ := gd_inv hF
      obtain ⟨r9, h10, hF⟩ := bd_inv hF
      have h10 := ldO_inv h10
      refine E_aald _ ⟨Nat.le_of_ble_eq_true rfl, Nat.le_of_ble_eq_true rfl⟩ h7.2 (shape_ord h7.2).1 h8 h10.1 dX5_survey_79 ?_
      refine E_astore_n (j := 2) (i := 2) (L' := [(2, .ref r9), (0, .ref v0), (1, .int v1)]) rfl (Nat.le_of_ble_eq_true rfl) rfl dX5_survey_80 ?_
      refine E_aload_n (j := 0) (i := 0) (q := 1) rfl rfl dX5_survey_81 ?_
      obtain ⟨r11, h12, hF⟩ := bd_inv hF
      have h12 := ldO_inv h12
      refine gf_RX5_12 rfl hv0 (shape_ord hv0).1 h12.1 dX5_survey_82 ?_
      refine E_aload_n (j := 2) (i := 2) (q := 0) rfl rfl dX5_survey_85 ?_
      refine gf_RX5_82 rfl h10.2 (shape_ord h10.2).1 dX5_survey_86 ?_
      obtain ⟨q13, h14, hF⟩ := bd_inv hF
      refine E_callV (na := 1) (As := [.int (gI s r9 7)]) (S := []) (kc := 0) (ks := 0) (ci := 3) rfl rfl h12.2 (shape_ord h12.2).1 cwV_RX5_99 ⟨Nat.le_of_ble_eq_true rfl, Nat.le_of_ble_eq_true rfl⟩ (T_X1_circuitOf hfl fl _ _ _ h12.2 _ h14) rfl rfl rfl (Nat.le_of_ble_eq_true rfl) dX5_survey_89 ?_
      refine E_istore_n (j := 3) (i := 3) (L' := [(3, .int q13), (2, .ref r9), (0, .ref v0), (1, .int v1)]) rfl (Nat.le_of_ble_eq_true rfl) rfl dX5_survey_92 ?_
      refine E_aload_n (j := 2) (i := 2) (q := 1) rfl rfl dX5_survey_93 ?_
      refine gf_RX5_103 rfl h10.2 (shape_ord h10.2).1 dX5_survey_94 ?_
      refine E_if_eq (tgt := 113) rfl dX5_survey_97 (fun c15 => ?_) (fun c15 => ?_)
      · have hF := ite_t hF c15
        refine E_sub [2, 3] rfl ?_
        exact T_X5_survey_113 hfl fl hr ih _ _ _ hv0 hF
      · have hF := ite_f hF c15
        refine E_iload_n (j := 3) (i := 3) (q := 0) rfl rfl dX5_survey_100 ?_
        obtain ⟨q16, h17, hF⟩ := bd_inv hF
        refine E_callSN (na := 1) (As := [.int q13]) (S := []) (kc := 0) (ks := 0) cwNS_RX5_107 ⟨Nat.le_of_ble_eq_true rfl, Nat.le_of_ble_eq_true rfl⟩ (T_X7_isCircuit hfl fl _ _  _ h17) rfl rfl rfl (Nat.le_of_ble_eq_true rfl) dX5_survey_101 ?_
        refine E_if_eq (tgt := 113) rfl dX5_survey_104 (fun c18 => ?_) (fun c18 => ?_)
        · have hF := ite_t hF c18
          refine E_sub [2, 3] rfl ?_
          exact T_X5_survey_113 hfl fl hr ih _ _ _ hv0 hF
        · have hF := ite_f hF c18
          refine E_aload_n (j := 0) (i := 0) (q := 2) rfl rfl dX5_survey_107 ?_
          refine E_iload_n (j := 3) (i := 3) (q := 0) rfl rfl dX5_survey_108 ?_
          refine E_aload_n (j := 2) (i := 2) (q := 1) rfl rfl dX5_survey_109 ?_
          obtain ⟨q19, h20, hF⟩ := bd_inv hF
          refine E_callV (na := 2) (As := [.int q13, .ref r9]) (S := []) (kc := 0) (ks := 0) (ci := 7) rfl rfl hv0 (shape_ord hv0).1 cwV_RX5_110 ⟨Nat.le_of_ble_eq_true rfl, Nat.le_of_ble_eq_true rfl⟩ (T_X5_addLoad hfl fl _ _ _ _ hv0 h10.2 _ h20) rfl rfl rfl (Nat.le_of_ble_eq_true rfl) dX5_survey_110 ?_
          refine E_sub [2, 3] rfl ?_
          exact T_X5_survey_113 hfl fl hr ih _ _ _ hv0 hF
set_option maxHeartbeats 4000000 in
set_option maxRecDepth 100000 in
theorem T_X5_survey_36 {l : Launch} (hfl : l.stackTraces = false) (fl : Nat) {r : Rs} {ρ : Mem} (hr : r = (.inr none, NF, ρ)) : ∀ (n : Nat) (v0 : Nat) (v1 : Int32) (s : Mem) (hv0 : shape v0 = some (.inl 7)), B_X5_survey_36 fl n v0 v1 s = some ρ → E l X_X5_survey r false NF s 0 0 36 [(0, .ref v0), (1, .int v1)] [] := by
  intro n
  induction n with
  | zero =>
    intro v0 v1 s hv0 hF
    cases hF
  | succ n ih =>
    intro v0 v1 s hv0 hF
    refine E_iload_n (j := 1) (i := 1) (q := 1) rfl rfl dX5_survey_36 ?_
    refine E_aload_n (j := 0) (i := 0) (q := 0) rfl rfl dX5_survey_37 ?_
    obtain ⟨r21, h22, hF⟩ := bd_inv hF
    have h22 := ldA_inv h22
    refine gf_RX5_55 rfl hv0 (shape_ord hv0).1 h22.1 dX5_survey_38 ?_
    refine E_alen _ (Nat.le_of_ble_eq_true rfl) h22.2 (shape_ord h22.2).1 dX5_survey_41 ?_
    refine E_icmp_ge (tgt := 58) rfl dX5_survey_42 (fun c23 => ?_) (fun c23 => ?_)
    · have hF := ite_t hF c23
      refine E_iconst (v := (0 : Int32)) rfl dX5_survey_58 ?_
      refine E_istore_n (j := 1) (i := 1) (L' := [(1, .int (0 : Int32)), (0, .ref v0)]) rfl (Nat.le_of_ble_eq_true rfl) rfl dX5_survey_59 ?_
      refine E_sub [1, 0] rfl ?_
      exact T_X5_survey_60 hfl fl hr  fl _ _ _ hv0 hF
    · have hF := ite_f hF c23
      refine E_aload_n (j := 0) (i := 0) (q := 0) rfl rfl dX5_survey_45 ?_
      obtain ⟨r24, h25, hF⟩ := bd_inv hF
      have h25 := ldA_inv h25
      refine gf_RX5_55 rfl hv0 (shape_ord hv0).1 h25.1 dX5_survey_46 ?_
      refine E_iload_n (j := 1) (i := 1) (q := 1) rfl rfl dX5_survey_49 ?_
      refine E_iconst (v := (0 : Int32)) rfl dX5_survey_50 ?_
      obtain ⟨h26, hF⟩ := gd_inv hF
      refine E_iast _ h25.2 (shape_ord h25.2).1 h26 dX5_survey_51 ?_
      obtain ⟨m27, e28, hF⟩ := nx_inv hF
      refine E_mem e28 ?_
      refine E_iinc (q := 1) (v := (v1 + (1 : Int32))) (L' := [(1, .int (v1 + (1 : Int32))), (0, .ref v0)]) rfl rfl (Nat.le_of_ble_eq_true rfl) rfl dX5_survey_52 ?_
      refine E_goto (tgt := 36) rfl dX5_survey_55 ?_
      refine E_sub [1, 0] rfl ?_
      exact ih _ _ _ hv0 hF
set_option maxHeartbeats 4000000 in
set_option maxRecDepth 100000 in
theorem T_X5_survey_2 {l : Launch} (hfl : l.stackTraces = false) (fl : Nat) {r : Rs} {ρ : Mem} (hr : r = (.inr none, NF, ρ)) : ∀ (n : Nat) (v0 : Nat) (v1 : Int32) (s : Mem) (hv0 : shape v0 = some (.inl 7)), B_X5_survey_2 fl n v0 v1 s = some ρ → E l X_X5_survey r false NF s 0 0 2 [(0, .ref v0), (1, .int v1)] [] := by
  intro n
  induction n with
  | zero =>
    intro v0 v1 s hv0 hF
    cases hF
  | succ n ih =>
    intro v0 v1 s hv0 hF
    refine E_iload_n (j := 1) (i := 1) (q := 1) rfl rfl dX5_survey_2 ?_
    refine E_aload_n (j := 0) (i := 0) (q := 0) rfl rfl dX5_survey_3 ?_
    obtain ⟨r29, h30, hF⟩ := bd_inv hF
    have h30 := ldO_inv h30
    refine gf_RX5_12 rfl hv0 (shape_ord hv0).1 h30.1 dX5_survey_4 ?_
    refine gf_RX5_71 rfl h30.2 (shape_ord h30.2).1 dX5_survey_7 ?_
    refine E_icmp_ge (tgt := 34) rfl dX5_survey_10 (fun c31 => ?_) (fun c31 => ?_)
    · have hF := ite_t hF c31
      refine E_iconst (v := (0 : Int32)) rfl dX5_survey_34 ?_
      refine E_istore_n (j := 1) (i := 1) (L' := [(1, .int (0 : Int32)), (0, .ref v0)]) rfl (Nat.le_of_ble_eq_true rfl) rfl dX5_survey_35 ?_
      refine E_sub [1, 0] rfl ?_
      exact T_X5_survey_36 hfl fl hr  fl _ _ _ hv0 hF
    · have hF := ite_f hF c31
      refine E_aload_n (j := 0) (i := 0) (q := 0) rfl rfl dX5_survey_13 ?_
      obtain ⟨r32, h33, hF⟩ := bd_inv hF
      have h33 := ldA_inv h33
      refine gf_RX5_48 rfl hv0 (shape_ord hv0).1 h33.1 dX5_survey_14 ?_
      refine E_iload_n (j := 1) (i := 1) (q := 1) rfl rfl dX5_survey_17 ?_
      refine E_aload_n (j := 0) (i := 0) (q := 0) rfl rfl dX5_survey_18 ?_
      obtain ⟨r34, h35, hF⟩ := bd_inv hF
      have h35 := ldO_inv h35
      refine gf_RX5_12 rfl hv0 (shape_ord hv0).1 h35.1 dX5_survey_19 ?_
      refine E_iload_n (j := 1) (i := 1) (q := 1) rfl rfl dX5_survey_22 ?_
      refine E_iconst (v := (-1 : Int32)) rfl dX5_survey_23 ?_
      obtain ⟨q36, h37, hF⟩ := bd_inv hF
      refine E_callV (na := 2) (As := [.int v1, .int (-1 : Int32)]) (S := [.int v1, .ref r32.1]) (kc := 0) (ks := 0) (ci := 3) rfl rfl h35.2 (shape_ord h35.2).1 cwV_RX5_89 ⟨Nat.le_of_ble_eq_true rfl, Nat.le_of_ble_eq_true rfl⟩ (T_X1_busyNights hfl fl _ _ _ _ h35.2 _ h37) rfl rfl rfl (Nat.le_of_ble_eq_true rfl) dX5_survey_24 ?_
      obtain ⟨h38, hF⟩ := gd_inv hF
      refine E_last _ h33.2 (shape_ord h33.2).1 h38 dX5_survey_27 ?_
      obtain ⟨m39, e40, hF⟩ := nx_inv hF
      refine E_mem e40 ?_
      refine E_iinc (q := 1) (v := (v1 + (1 : Int32))) (L' := [(1, .int (v1 + (1 : Int32))), (0, .ref v0)]) rfl rfl (Nat.le_of_ble_eq_true rfl) rfl dX5_survey_28 ?_
      refine E_goto (tgt := 2) rfl dX5_survey_31 ?_
      refine E_sub [1, 0] rfl ?_
      exact ih _ _ _ hv0 hF
set_option maxHeartbeats 4000000 in
set_option maxRecDepth 100000 in
theorem T_X5_survey {l : Launch} (hfl : l.stackTraces = false) (fl : Nat) (v0 : Nat) (s : Mem) (hv0 : shape v0 = some (.inl 7)) (ρ : Mem) (hF : F_X5_survey fl v0 s = some ρ) : MetN l X_X5_survey false NF s [.ref v0] (.inr none, NF, ρ) := by
  unfold F_X5_survey at hF
  obtain ⟨r, hr⟩ : ∃ r : Rs, r = (.inr none, NF, ρ) := ⟨_, rfl⟩
  rw [← hr]
  refine met_of_E rfl rfl (by decide +kernel) hfl rfl (Nat.le_of_ble_eq_true rfl) ?_
  show E l X_X5_survey r false NF s 0 0 0 [(0, .ref v0)] []
  refine E_iconst (v := (0 : Int32)) rfl dX5_survey_0 ?_
  refine E_istore_n (j := 1) (i := 1) (L' := [(1, .int (0 : Int32)), (0, .ref v0)]) rfl (Nat.le_of_ble_eq_true rfl) rfl dX5_survey_1 ?_
  refine E_sub [1, 0] rfl ?_
  exact T_X5_survey_2 hfl fl hr  fl _ _ _ hv0 hF
set_option maxHeartbeats 4000000 in
set_option maxRecDepth 100000 in
theorem T_X5_sortPitches_65 {l : Launch} (hfl : l.stackTraces = false) (fl : Nat) {r : Rs} {ρ : Mem} (hr : r = (.inr none, NF, ρ)) {k2 : Nat → Int32 → Mem → Option Mem} (hk2 : ∀ (v0 : Nat) (v1 : Int32) (s : Mem) (hv0 : shape v0 = some (.inl 7)), k2 v0 v1 s = some ρ → E l X_X5_sortPitches r false NF s 0 0 2 [(0, .ref v0), (1, .int v1)] []) (v0 : Nat) (v1 : Int32) (v2 : Int32) (s : Mem) (hv0 : shape v0 = some (.inl 7)) (hF : B_X5_sortPitches_65 k2 fl v0 v1 v2 s = some ρ) : E l X_X5_sortPitches r false NF s 0 0 65 [(0, .ref v0), (1, .int v1), (2, .int v2)] [] := by
  unfold B_X5_sortPitches_65 at hF
  refine E_aload_n (j := 0) (i := 0) (q := 0) rfl rfl dX5_sortPitches_65 ?_
  obtain ⟨r1, h2, hF⟩ := bd_inv hF
  have h2 := ldA_inv h2
  refine gf_RX5_58 rfl hv0 (shape_ord hv0).1 h2.1 dX5_sortPitches_66 ?_
  refine E_iload_n (j := 2) (i := 2) (q := 2) rfl rfl dX5_sortPitches_69 ?_
  refine E_iload_n (j := 1) (i := 1) (q := 1) rfl rfl dX5_sortPitches_70 ?_
  obtain ⟨h3, hF⟩ := gd_inv hF
  refine E_iast _ h2.2 (shape_ord h2.2).1 h3 dX5_sortPitches_71 ?_
  obtain ⟨m4, e5, hF⟩ := nx_inv hF
  refine E_mem e5 ?_
  refine E_iinc (q := 1) (v := (v1 + (1 : Int32))) (L' := [(1, .int (v1 + (1 : Int32))), (0, .ref v0), (2, .int v2)]) rfl rfl (Nat.le_of_ble_eq_true rfl) rfl dX5_sortPitches_72 ?_
  refine E_goto (tgt := 2) rfl dX5_sortPitches_75 ?_
  refine E_sub [1, 0] rfl ?_
  exact hk2 _ _ _ hv0 hF
set_option maxHeartbeats 4000000 in
set_option maxRecDepth 100000 in
theorem T_X5_sortPitches_15 {l : Launch} (hfl : l.stackTraces = false) (fl : Nat) {r : Rs} {ρ : Mem} (hr : r = (.inr none, NF, ρ)) {k2 : Nat → Int32 → Mem → Option Mem} (hk2 : ∀ (v0 : Nat) (v1 : Int32) (s : Mem) (hv0 : shape v0 = some (.inl 7)), k2 v0 v1 s = some ρ → E l X_X5_sortPitches r false NF s 0 0 2 [(0, .ref v0), (1, .int v1)] []) : ∀ (n : Nat) (v0 : Nat) (v1 : Int32) (v2 : Int32) (s : Mem) (hv0 : shape v0 = some (.inl 7)), B_X5_sortPitches_15 k2 fl n v0 v1 v2 s = some ρ → E l X_X5_sortPitches r false NF s 0 0 15 [(0, .ref v0), (1, .int v1), (2, .int v2)] [] := by
  intro n
  induction n with
  | zero =>
    intro v0 v1 v2 s hv0 hF
    cases hF
  | succ n ih =>
    intro v0 v1 v2 s hv0 hF
    refine E_iload_n (j := 2) (i := 2) (q := 2) rfl rfl dX5_sortPitches_15 ?_
    refine E_if_le (tgt := 65) rfl dX5_sortPitches_16 (fun c6 => ?_) (fun c6 => ?_)
    · have hF := ite_t hF c6
      refine E_sub [0, 1, 2] rfl ?_
      exact T_X5_sortPitches_65 hfl fl hr hk2 _ _ _ _ hv0 hF
    · have hF := ite_f hF c6
      refine E_aload_n (j := 0) (i := 0) (q := 0) rfl rfl dX5_sortPitches_19 ?_
      obtain ⟨r7, h8, hF⟩ := bd_inv hF
      have h8 := ldO_inv h8
      refine gf_RX5_12 rfl hv0 (shape_ord hv0).1 h8.1 dX5_sortPitches_20 ?_
      refine E_aload_n (j := 0) (i := 0) (q := 0) rfl rfl dX5_sortPitches_23 ?_
      obtain ⟨r9, h10, hF⟩ := bd_inv hF
      have h10 := ldA_inv h10
      refine gf_RX5_58 rfl hv0 (shape_ord hv0).1 h10.1 dX5_sortPitches_24 ?_
      refine E_iload_n (j := 2) (i := 2) (q := 2) rfl rfl dX5_sortPitches_27 ?_
      refine E_iconst (v := (1 : Int32)) rfl dX5_sortPitches_28 ?_
      refine E_isub dX5_sortPitches_29 ?_
      obtain ⟨h11, hF⟩ := gd_inv hF
      refine E_iald _ h10.2 (shape_ord h10.2).1 h11 dX5_sortPitches_30 ?_
      obtain ⟨q12, h13, hF⟩ := bd_inv hF
      refine E_callV (na := 1) (As := [.int (gI s r9.1 (v2 - (1 : Int32)).toNatClampNeg)]) (S := []) (kc := 0) (ks := 0) (ci := 3) rfl rfl h8.2 (shape_ord h8.2).1 cwV_RX5_123 ⟨Nat.le_of_ble_eq_true rfl, Nat.le_of_ble_eq_true rfl⟩ (T_X1_areaOf hfl fl _ _ _ h8.2 _ h13) rfl rfl rfl (Nat.le_of_ble_eq_true rfl) dX5_sortPitches_31 ?_
      refine E_aload_n (j := 0) (i := 0) (q := 0) rfl rfl dX5_sortPitches_34 ?_
      obtain ⟨r14, h15, hF⟩ := bd_inv hF
      have h15 := ldO_inv h15
      refine gf_RX5_12 rfl hv0 (shape_ord hv0).1 h15.1 dX5_sortPitches_35 ?_
      refine E_iload_n (j := 1) (i := 1) (q := 1) rfl rfl dX5_sortPitches_38 ?_
      obtain ⟨q16, h17, hF⟩ := bd_inv hF
      refine E_callV (na := 1) (As := [.int v1]) (S := [.int q12]) (kc := 0) (ks := 0) (ci := 3) rfl rfl h15.2 (shape_ord h15.2).1 cwV_RX5_123 ⟨Nat.le_of_ble_eq_true rfl, Nat.le_of_ble_eq_true rfl⟩ (T_X1_areaOf hfl fl _ _ _ h15.2 _ h17) rfl rfl rfl (Nat.le_of_ble_eq_true rfl) dX5_sortPitches_39 ?_
      refine E_icmp_le (tgt := 65) rfl dX5_sortPitches_42 (fun c18 => ?_) (fun c18 => ?_)
      · have hF := ite_t hF c18
        refine E_sub [0, 1, 2] rfl ?_
        exact T_X5_sortPitches_65 hfl fl hr hk2 _ _ _ _ hv0 hF
      · have hF := ite_f hF c18
        refine E_aload_n (j := 0) (i := 0) (q := 0) rfl rfl dX5_sortPitches_45 ?_
        obtain ⟨r19, h20, hF⟩ := bd_inv hF
        have h20 := ldA_inv h20
        refine gf_RX5_58 rfl hv0 (shape_ord hv0).1 h20.1 dX5_sortPitches_46 ?_
        refine E_iload_n (j := 2) (i := 2) (q := 2) rfl rfl dX5_sortPitches_49 ?_
        refine E_aload_n (j := 0) (i := 0) (q := 0) rfl rfl dX5_sortPitches_50 ?_
        obtain ⟨r21, h22, hF⟩ := bd_inv hF
        have h22 := ldA_inv h22
        refine gf_RX5_58 rfl hv0 (shape_ord hv0).1 h22.1 dX5_sortPitches_51 ?_
        refine E_iload_n (j := 2) (i := 2) (q := 2) rfl rfl dX5_sortPitches_54 ?_
        refine E_iconst (v := (1 : Int32)) rfl dX5_sortPitches_55 ?_
        refine E_isub dX5_sortPitches_56 ?_
        obtain ⟨h23, hF⟩ := gd_inv hF
        refine E_iald _ h22.2 (shape_ord h22.2).1 h23 dX5_sortPitches_57 ?_
        obtain ⟨h24, hF⟩ := gd_inv hF
        refine E_iast _ h20.2 (shape_ord h20.2).1 h24 dX5_sortPitches_58 ?_
        obtain ⟨m25, e26, hF⟩ := nx_inv hF
        refine E_mem e26 ?_
        refine E_iinc (q := 2) (v := (v2 + (-1 : Int32))) (L' := [(2, .int (v2 + (-1 : Int32))), (0, .ref v0), (1, .int v1)]) rfl (congrArg (fun z => v2 + z) (by decide)) (Nat.le_of_ble_eq_true rfl) rfl dX5_sortPitches_59 ?_
        refine E_goto (tgt := 15) rfl dX5_sortPitches_62 ?_
        refine E_sub [1, 2, 0] rfl ?_
        exact ih _ _ _ _ hv0 hF
set_option maxHeartbeats 4000000 in
set_option maxRecDepth 100000 in
theorem T_X5_sortPitches_2 {l : Launch} (hfl : l.stackTraces = false) (fl : Nat) {r : Rs} {ρ : Mem} (hr : r = (.inr none, NF, ρ)) : ∀ (n : Nat) (v0 : Nat) (v1 : Int32) (s : Mem) (hv0 : shape v0 = some (.inl 7)), B_X5_sortPitches_2 fl n v0 v1 s = some ρ → E l X_X5_sortPitches r false NF s 0 0 2 [(0, .ref v0), (1, .int v1)] [] := by
  intro n
  induction n with
  | zero =>
    intro v0 v1 s hv0 hF
    cases hF
  | succ n ih =>
    intro v0 v1 s hv0 hF
    refine E_iload_n (j := 1) (i := 1) (q := 1) rfl rfl dX5_sortPitches_2 ?_
    refine E_aload_n (j := 0) (i := 0) (q := 0) rfl rfl dX5_sortPitches_3 ?_
    obtain ⟨r27, h28, hF⟩ := bd_inv hF
    have h28 := ldO_inv h28
    refine gf_RX5_12 rfl hv0 (shape_ord hv0).1 h28.1 dX5_sortPitches_4 ?_
    refine gf_RX5_71 rfl h28.2 (shape_ord h28.2).1 dX5_sortPitches_7 ?_
    refine E_icmp_ge (tgt := 78) rfl dX5_sortPitches_10 (fun c29 => ?_) (fun c29 => ?_)
    · have hF := ite_t hF c29
      exact E_vret (Or.inl rfl) rfl (by cases hF; exact hr) dX5_sortPitches_78
    · have hF := ite_f hF c29
      refine E_iload_n (j := 1) (i := 1) (q := 1) rfl rfl dX5_sortPitches_13 ?_
      refine E_istore_n (j := 2) (i := 2) (L' := [(2, .int v1), (0, .ref v0), (1, .int v1)]) rfl (Nat.le_of_ble_eq_true rfl) rfl dX5_sortPitches_14 ?_
      refine E_sub [1, 2, 0] rfl ?_
      exact T_X5_sortPitches_15 hfl fl hr ih fl _ _ _ _ hv0 hF
set_option maxHeartbeats 4000000 in
set_option maxRecDepth 100000 in
theorem T_X5_sortPitches {l : Launch} (hfl : l.stackTraces = false) (fl : Nat) (v0 : Nat) (s : Mem) (hv0 : shape v0 = some (.inl 7)) (ρ : Mem) (hF : F_X5_sortPitches fl v0 s = some ρ) : MetN l X_X5_sortPitches false NF s [.ref v0] (.inr none, NF, ρ) := by
  unfold F_X5_sortPitches at hF
  obtain ⟨r, hr⟩ : ∃ r : Rs, r = (.inr none, NF, ρ) := ⟨_, rfl⟩
  rw [← hr]
  refine met_of_E rfl rfl (by decide +kernel) hfl rfl (Nat.le_of_ble_eq_true rfl) ?_
  show E l X_X5_sortPitches r false NF s 0 0 0 [(0, .ref v0)] []
  refine E_iconst (v := (0 : Int32)) rfl dX5_sortPitches_0 ?_
  refine E_istore_n (j := 1) (i := 1) (L' := [(1, .int (0 : Int32)), (0, .ref v0)]) rfl (Nat.le_of_ble_eq_true rfl) rfl dX5_sortPitches_1 ?_
  refine E_sub [1, 0] rfl ?_
  exact T_X5_sortPitches_2 hfl fl hr  fl _ _ _ hv0 hF
set_option maxHeartbeats 4000000 in
set_option maxRecDepth 100000 in
theorem T_X5_isInTheWay {l : Launch} (hfl : l.stackTraces = false) (fl : Nat) (v0 : Nat) (v1 : Nat) (s : Mem) (hv0 : shape v0 = some (.inl 7)) (hv1 : shape v1 = some (.inl 5)) (ρ : Int32) (hF : F_X5_isInTheWay fl v0 v1 s = some ρ) : MetN l X_X5_isInTheWay false NF s [.ref v0, .ref v1] (.inr (some (.int ρ)), NF, s) := by
  unfold F_X5_isInTheWay at hF
  obtain ⟨r, hr⟩ : ∃ r : Rs, r = (.inr (some (.int ρ)), NF, s) := ⟨_, rfl⟩
  rw [← hr]
  refine met_of_E rfl rfl (by decide +kernel) hfl rfl (Nat.le_of_ble_eq_true rfl) ?_
  show E l X_X5_isInTheWay r false NF s 0 0 0 [(0, .ref v0), (1, .ref v1)] []
  refine E_aload_n (j := 1) (i := 1) (q := 1) rfl rfl dX5_isInTheWay_0 ?_
  refine E_aload_n (j := 0) (i := 0) (q := 0) rfl rfl dX5_isInTheWay_1 ?_
  obtain ⟨r1, h2, hF⟩ := bd_inv hF
  have h2 := ldA_inv h2
  refine gf_RX5_36 rfl hv0 (shape_ord hv0).1 h2.1 dX5_isInTheWay_2 ?_
  refine E_iconst (v := (0 : Int32)) rfl dX5_isInTheWay_5 ?_
  obtain ⟨h3, hF⟩ := gd_inv hF
  refine E_iald _ h2.2 (shape_ord h2.2).1 h3 dX5_isInTheWay_6 ?_
  obtain ⟨q4, h5, hF⟩ := bd_inv hF
  refine E_callV (na := 1) (As := [.int (gI s r1.1 (0 : Int32).toNatClampNeg)]) (S := []) (kc := 0) (ks := 0) (ci := 5) rfl rfl hv1 (shape_ord hv1).1 cwV_RX5_134 ⟨Nat.le_of_ble_eq_true rfl, Nat.le_of_ble_eq_true rfl⟩ (T_X3_isOn hfl fl _ _ _ hv1 _ h5) rfl rfl rfl (Nat.le_of_ble_eq_true rfl) dX5_isInTheWay_7 ?_
  refine E_if_eq (tgt := 34) rfl dX5_isInTheWay_10 (fun c6 => ?_) (fun c6 => ?_)
  · have hF := ite_t hF c6
    refine E_iconst (v := (0 : Int32)) rfl dX5_isInTheWay_34 ?_
    exact E_zret (ty := .boolean) (Or.inl rfl) rfl rfl (by cases hF; exact hr) dX5_isInTheWay_35
  · have hF := ite_f hF c6
    refine E_aload_n (j := 1) (i := 1) (q := 1) rfl rfl dX5_isInTheWay_13 ?_
    refine gf_RX5_137 rfl hv1 (shape_ord hv1).1 dX5_isInTheWay_14 ?_
    refine E_aload_n (j := 0) (i := 0) (q := 0) rfl rfl dX5_isInTheWay_17 ?_
    obtain ⟨r7, h8, hF⟩ := bd_inv hF
    have h8 := ldO_inv h8
    refine gf_RX5_21 rfl hv0 (shape_ord hv0).1 h8.1 dX5_isInTheWay_18 ?_
    refine gf_RX5_137 rfl h8.2 (shape_ord h8.2).1 dX5_isInTheWay_21 ?_
    refine E_land dX5_isInTheWay_24 ?_
    refine E_lconst (v := (0 : Int64)) rfl dX5_isInTheWay_25 ?_
    refine E_lcmp dX5_isInTheWay_26 ?_
    refine E_if_eq (tgt := 34) rfl dX5_isInTheWay_27 (fun c9 => ?_) (fun c9 => ?_)
    · have hF := ite_t hF c9
      refine E_iconst (v := (0 : Int32)) rfl dX5_isInTheWay_34 ?_
      exact E_zret (ty := .boolean) (Or.inl rfl) rfl rfl (by cases hF; exact hr) dX5_isInTheWay_35
    · have hF := ite_f hF c9
      refine E_iconst (v := (1 : Int32)) rfl dX5_isInTheWay_30 ?_
      refine E_goto (tgt := 35) rfl dX5_isInTheWay_31 ?_
      exact E_zret (ty := .boolean) (Or.inl rfl) rfl rfl (by cases hF; exact hr) dX5_isInTheWay_35
set_option maxHeartbeats 4000000 in
set_option maxRecDepth 100000 in
theorem T_X5_chooseGoal_67 {l : Launch} (hfl : l.stackTraces = false) (fl : Nat) {r : Rs} {ρ : (Int32 × Mem)} (hr : r = (.inr (some (.int ρ.1)), NF, ρ.2)) {k30 : Nat → Int32 → Int32 → Mem → Option (Int32 × Mem)} (hk30 : ∀ (v0 : Nat) (v1 : Int32) (v2 : Int32) (s : Mem) (hv0 : shape v0 = some (.inl 7)), k30 v0 v1 v2 s = some ρ → E l X_X5_chooseGoal r false NF s 0 0 30 [(0, .ref v0), (1, .int v1), (2, .int v2)] []) (v0 : Nat) (v1 : Int32) (v2 : Int32) (s : Mem) (hv0 : shape v0 = some (.inl 7)) (hF : B_X5_chooseGoal_67 k30 fl v0 v1 v2 s = some ρ) : E l X_X5_chooseGoal r false NF s 0 0 67 [(0, .ref v0), (1, .int v1), (2, .int v2)] [] := by
  unfold B_X5_chooseGoal_67 at hF
  refine E_iinc (q := 2) (v := (v2 + (1 : Int32))) (L' := [(2, .int (v2 + (1 : Int32))), (0, .ref v0), (1, .int v1)]) rfl rfl (Nat.le_of_ble_eq_true rfl) rfl dX5_chooseGoal_67 ?_
  refine E_goto (tgt := 30) rfl dX5_chooseGoal_70 ?_
  refine E_sub [1, 2, 0] rfl ?_
  exact hk30 _ _ _ _ hv0 hF
set_option maxHeartbeats 4000000 in
set_option maxRecDepth 100000 in
theorem T_X5_chooseGoal_30 {l : Launch} (hfl : l.stackTraces = false) (fl : Nat) {r : Rs} {ρ : (Int32 × Mem)} (hr : r = (.inr (some (.int ρ.1)), NF, ρ.2)) : ∀ (n : Nat) (v0 : Nat) (v1 : Int32) (v2 : Int32) (s : Mem) (hv0 : shape v0 = some (.inl 7)), B_X5_chooseGoal_30 fl n v0 v1 v2 s = some ρ → E l X_X5_chooseGoal r false NF s 0 0 30 [(0, .ref v0), (1, .int v1), (2, .int v2)] [] := by
  intro n
  induction n with
  | zero =>
    intro v0 v1 v2 s hv0 hF
    cases hF
  | succ n ih =>
    intro v0 v1 v2 s hv0 hF
    refine E_iload_n (j := 2) (i := 2) (q := 2) rfl rfl dX5_chooseGoal_30 ?_
    refine E_aload_n (j := 0) (i := 0) (q := 0) rfl rfl dX5_chooseGoal_31 ?_
    obtain ⟨r1, h2, hF⟩ := bd_inv hF
    have h2 := ldO_inv h2
    refine gf_RX5_12 rfl hv0 (shape_ord hv0).1 h2.1 dX5_chooseGoal_32 ?_
    refine gf_RX5_93 rfl h2.2 (shape_ord h2.2).1 dX5_chooseGoal_35 ?_
    refine E_icmp_ge (tgt := 73) rfl dX5_chooseGoal_38 (fun c3 => ?_) (fun c3 => ?_)
    · have hF := ite_t hF c3
      refine E_aload_n (j := 0) (i := 0) (q := 0) rfl rfl dX5_chooseGoal_73 ?_
      obtain ⟨r4, h5, hF⟩ := bd_inv hF
      have h5 := ldA_inv h5
      refine gf_RX5_45 rfl hv0 (shape_ord hv0).1 h5.1 dX5_chooseGoal_74 ?_
      refine E_iconst (v := (0 : Int32)) rfl dX5_chooseGoal_77 ?_
      obtain ⟨h6, hF⟩ := gd_inv hF
      refine E_iald _ h5.2 (shape_ord h5.2).1 h6 dX5_chooseGoal_78 ?_
      refine E_aload_n (j := 0) (i := 0) (q := 0) rfl rfl dX5_chooseGoal_79 ?_
      refine gf_RX5_67 rfl hv0 (shape_ord hv0).1 dX5_chooseGoal_80 ?_
      refine E_icmp_gt (tgt := 105) rfl dX5_chooseGoal_83 (fun c7 => ?_) (fun c7 => ?_)
      · have hF := ite_t hF c7
        refine E_iconst (v := (0 : Int32)) rfl dX5_chooseGoal_105 ?_
        exact E_zret (ty := .boolean) (Or.inl rfl) rfl rfl (by cases hF; exact hr) dX5_chooseGoal_106
      · have hF := ite_f hF c7
        refine E_aload_n (j := 0) (i := 0) (q := 0) rfl rfl dX5_chooseGoal_86 ?_
        obtain ⟨r8, h9, hF⟩ := bd_inv hF
        have h9 := ldO_inv h9
        refine gf_RX5_12 rfl hv0 (shape_ord hv0).1 h9.1 dX5_chooseGoal_87 ?_
        refine E_aload_n (j := 0) (i := 0) (q := 0) rfl rfl dX5_chooseGoal_90 ?_
        obtain ⟨r10, h11, hF⟩ := bd_inv hF
        have h11 := ldO_inv h11
        refine gf_RX5_21 rfl hv0 (shape_ord hv0).1 h11.1 dX5_chooseGoal_91 ?_
        refine E_iload_n (j := 1) (i := 1) (q := 1) rfl rfl dX5_chooseGoal_94 ?_
        obtain ⟨q12, h13, hF⟩ := bd_inv hF
        refine E_callV (na := 2) (As := [.ref r10, .int v1]) (S := []) (kc := 0) (ks := 0) (ci := 3) rfl rfl h9.2 (shape_ord h9.2).1 cwV_RX5_130 ⟨Nat.le_of_ble_eq_true rfl, Nat.le_of_ble_eq_true rfl⟩ (T_X1_hasFit hfl fl _ _ _ _ h9.2 h11.2 _ h13) rfl rfl rfl (Nat.le_of_ble_eq_true rfl) dX5_chooseGoal_95 ?_
        refine E_if_eq (tgt := 105) rfl dX5_chooseGoal_98 (fun c14 => ?_) (fun c14 => ?_)
        · have hF := ite_t hF c14
          refine E_iconst (v := (0 : Int32)) rfl dX5_chooseGoal_105 ?_
          exact E_zret (ty := .boolean) (Or.inl rfl) rfl rfl (by cases hF; exact hr) dX5_chooseGoal_106
        · have hF := ite_f hF c14
          refine E_iconst (v := (1 : Int32)) rfl dX5_chooseGoal_101 ?_
          refine E_goto (tgt := 106) rfl dX5_chooseGoal_102 ?_
          exact E_zret (ty := .boolean) (Or.inl rfl) rfl rfl (by cases hF; exact hr) dX5_chooseGoal_106
    · have hF := ite_f hF c3
      refine E_aload_n (j := 0) (i := 0) (q := 0) rfl rfl dX5_chooseGoal_41 ?_
      refine E_aload_n (j := 0) (i := 0) (q := 0) rfl rfl dX5_chooseGoal_42 ?_
      obtain ⟨r15, h16, hF⟩ := bd_inv hF
      have h16 := ldO_inv h16
      refine gf_RX5_12 rfl hv0 (shape_ord hv0).1 h16.1 dX5_chooseGoal_43 ?_
      obtain ⟨r17, h18, hF⟩ := bd_inv hF
      have h18 := ldA_inv h18
      refine gf_RX5_96 rfl h16.2 (shape_ord h16.2).1 h18.1 dX5_chooseGoal_46 ?_
      refine E_iload_n (j := 2) (i := 2) (q := 2) rfl rfl dX5_chooseGoal_49 ?_
      obtain ⟨h19, hF⟩ := gd_inv hF
      obtain ⟨r20, h21, hF⟩ := bd_inv hF
      have h21 := ldO_inv h21
      refine E_aald _ ⟨Nat.le_of_ble_eq_true rfl, Nat.le_of_ble_eq_true rfl⟩ h18.2 (shape_ord h18.2).1 h19 h21.1 dX5_chooseGoal_50 ?_
      obtain ⟨q22, h23, hF⟩ := bd_inv hF
      refine E_callV (na := 1) (As := [.ref r20]) (S := []) (kc := 0) (ks := 0) (ci := 7) rfl rfl hv0 (shape_ord hv0).1 cwV_RX5_126 ⟨Nat.le_of_ble_eq_true rfl, Nat.le_of_ble_eq_true rfl⟩ (T_X5_isInTheWay hfl fl _ _ _ hv0 h21.2 _ h23) rfl rfl rfl (Nat.le_of_ble_eq_true rfl) dX5_chooseGoal_51 ?_
      refine E_if_eq (tgt := 67) rfl dX5_chooseGoal_54 (fun c24 => ?_) (fun c24 => ?_)
      · have hF := ite_t hF c24
        refine E_sub [0, 1, 2] rfl ?_
        exact T_X5_chooseGoal_67 hfl fl hr ih _ _ _ _ hv0 hF
      · have hF := ite_f hF c24
        refine E_aload_n (j := 0) (i := 0) (q := 0) rfl rfl dX5_chooseGoal_57 ?_
        obtain ⟨r25, h26, hF⟩ := bd_inv hF
        have h26 := ldA_inv h26
        refine gf_RX5_45 rfl hv0 (shape_ord hv0).1 h26.1 dX5_chooseGoal_58 ?_
        refine E_iconst (v := (0 : Int32)) rfl dX5_chooseGoal_61 ?_
        refine E_dup2 rfl rfl dX5_chooseGoal_62 ?_
        obtain ⟨h27, hF⟩ := gd_inv hF
        refine E_iald _ h26.2 (shape_ord h26.2).1 h27 dX5_chooseGoal_63 ?_
        refine E_iconst (v := (1 : Int32)) rfl dX5_chooseGoal_64 ?_
        refine E_iadd dX5_chooseGoal_65 ?_
        obtain ⟨h28, hF⟩ := gd_inv hF
        refine E_iast _ h26.2 (shape_ord h26.2).1 h28 dX5_chooseGoal_66 ?_
        obtain ⟨m29, e30, hF⟩ := nx_inv hF
        refine E_mem e30 ?_
        refine E_sub [0, 1, 2] rfl ?_
        exact T_X5_chooseGoal_67 hfl fl hr ih _ _ _ _ hv0 hF
set_option maxHeartbeats 4000000 in
set_option maxRecDepth 100000 in
theorem T_X5_chooseGoal {l : Launch} (hfl : l.stackTraces = false) (fl : Nat) (v0 : Nat) (v1 : Int32) (s : Mem) (hv0 : shape v0 = some (.inl 7)) (ρ : (Int32 × Mem)) (hF : F_X5_chooseGoal fl v0 v1 s = some ρ) : MetN l X_X5_chooseGoal false NF s [.ref v0, .int v1] (.inr (some (.int ρ.1)), NF, ρ.2) := by
  unfold F_X5_chooseGoal at hF
  obtain ⟨r, hr⟩ : ∃ r : Rs, r = (.inr (some (.int ρ.1)), NF, ρ.2) := ⟨_, rfl⟩
  rw [← hr]
  refine met_of_E rfl rfl (by decide +kernel) hfl rfl (Nat.le_of_ble_eq_true rfl) ?_
  show E l X_X5_chooseGoal r false NF s 0 0 0 [(0, .ref v0), (1, .int v1)] []
  refine E_aload_n (j := 0) (i := 0) (q := 0) rfl rfl dX5_chooseGoal_0 ?_
  obtain ⟨r31, h32, hF⟩ := bd_inv hF
  have h32 := ldA_inv h32
  refine gf_RX5_36 rfl hv0 (shape_ord hv0).1 h32.1 dX5_chooseGoal_1 ?_
  refine E_iconst (v := (0 : Int32)) rfl dX5_chooseGoal_4 ?_
  refine E_iload_n (j := 1) (i := 1) (q := 1) rfl rfl dX5_chooseGoal_5 ?_
  obtain ⟨h33, hF⟩ := gd_inv hF
  refine E_iast _ h32.2 (shape_ord h32.2).1 h33 dX5_chooseGoal_6 ?_
  obtain ⟨m34, e35, hF⟩ := nx_inv hF
  refine E_mem e35 ?_
  refine E_aload_n (j := 0) (i := 0) (q := 0) rfl rfl dX5_chooseGoal_7 ?_
  obtain ⟨r36, h37, hF⟩ := bd_inv hF
  have h37 := ldA_inv h37
  refine gf_RX5_42 rfl hv0 (shape_ord hv0).1 h37.1 dX5_chooseGoal_8 ?_
  refine E_iconst (v := (0 : Int32)) rfl dX5_chooseGoal_11 ?_
  refine E_aload_n (j := 0) (i := 0) (q := 0) rfl rfl dX5_chooseGoal_12 ?_
  obtain ⟨r38, h39, hF⟩ := bd_inv hF
  have h39 := ldO_inv h39
  refine gf_RX5_12 rfl hv0 (shape_ord hv0).1 h39.1 dX5_chooseGoal_13 ?_
  refine E_iload_n (j := 1) (i := 1) (q := 1) rfl rfl dX5_chooseGoal_16 ?_
  obtain ⟨q40, h41, hF⟩ := bd_inv hF
  refine E_callV (na := 1) (As := [.int v1]) (S := [.int (0 : Int32), .ref r36.1]) (kc := 0) (ks := 0) (ci := 3) rfl rfl h39.2 (shape_ord h39.2).1 cwV_RX5_99 ⟨Nat.le_of_ble_eq_true rfl, Nat.le_of_ble_eq_true rfl⟩ (T_X1_circuitOf hfl fl _ _ _ h39.2 _ h41) rfl rfl rfl (Nat.le_of_ble_eq_true rfl) dX5_chooseGoal_17 ?_
  obtain ⟨h42, hF⟩ := gd_inv hF
  refine E_iast _ h37.2 (shape_ord h37.2).1 h42 dX5_chooseGoal_20 ?_
  obtain ⟨m43, e44, hF⟩ := nx_inv hF
  refine E_mem e44 ?_
  refine E_aload_n (j := 0) (i := 0) (q := 0) rfl rfl dX5_chooseGoal_21 ?_
  obtain ⟨r45, h46, hF⟩ := bd_inv hF
  have h46 := ldA_inv h46
  refine gf_RX5_45 rfl hv0 (shape_ord hv0).1 h46.1 dX5_chooseGoal_22 ?_
  refine E_iconst (v := (0 : Int32)) rfl dX5_chooseGoal_25 ?_
  refine E_iconst (v := (0 : Int32)) rfl dX5_chooseGoal_26 ?_
  obtain ⟨h47, hF⟩ := gd_inv hF
  refine E_iast _ h46.2 (shape_ord h46.2).1 h47 dX5_chooseGoal_27 ?_
  obtain ⟨m48, e49, hF⟩ := nx_inv hF
  refine E_mem e49 ?_
  refine E_iconst (v := (0 : Int32)) rfl dX5_chooseGoal_28 ?_
  refine E_istore_n (j := 2) (i := 2) (L' := [(2, .int (0 : Int32)), (0, .ref v0), (1, .int v1)]) rfl (Nat.le_of_ble_eq_true rfl) rfl dX5_chooseGoal_29 ?_
  refine E_sub [1, 2, 0] rfl ?_
  exact T_X5_chooseGoal_30 hfl fl hr  fl _ _ _ _ hv0 hF
set_option maxHeartbeats 4000000 in
set_option maxRecDepth 100000 in
theorem T_X5_seatAll_76 {l : Launch} (hfl : l.stackTraces = false) (fl : Nat) {r : Rs} {ρ : (Int32 × Mem)} (hr : r = (.inr (some (.int ρ.1)), NF, ρ.2)) : ∀ (n : Nat) (v0 : Nat) (v1 : Int32) (s : Mem) (hv0 : shape v0 = some (.inl 7)), B_X5_seatAll_76 fl n v0 v1 s = some ρ → E l X_X5_seatAll r false NF s 0 0 76 [(0, .ref v0), (1, .int v1)] [] := by
  intro n
  induction n with
  | zero =>
    intro v0 v1 s hv0 hF
    cases hF
  | succ n ih =>
    intro v0 v1 s hv0 hF
    refine E_iload_n (j := 1) (i := 1) (q := 1) rfl rfl dX5_seatAll_76 ?_
    refine E_aload_n (j := 0) (i := 0) (q := 0) rfl rfl dX5_seatAll_77 ?_
    refine gf_RX5_67 rfl hv0 (shape_ord hv0).1 dX5_seatAll_78 ?_
    refine E_icmp_gt (tgt := 141) rfl dX5_seatAll_81 (fun c1 => ?_) (fun c1 => ?_)
    · have hF := ite_t hF c1
      refine E_iconst (v := (1 : Int32)) rfl dX5_seatAll_141 ?_
      exact E_zret (ty := .boolean) (Or.inl rfl) rfl rfl (by cases hF; exact hr) dX5_seatAll_142
    · have hF := ite_f hF c1
      refine E_aload_n (j := 0) (i := 0) (q := 0) rfl rfl dX5_seatAll_84 ?_
      obtain ⟨r2, h3, hF⟩ := bd_inv hF
      have h3 := ldA_inv h3
      refine gf_RX5_52 rfl hv0 (shape_ord hv0).1 h3.1 dX5_seatAll_85 ?_
      refine E_aload_n (j := 0) (i := 0) (q := 0) rfl rfl dX5_seatAll_88 ?_
      obtain ⟨r4, h5, hF⟩ := bd_inv hF
      have h5 := ldA_inv h5
      refine gf_RX5_36 rfl hv0 (shape_ord hv0).1 h5.1 dX5_seatAll_89 ?_
      refine E_iload_n (j := 1) (i := 1) (q := 1) rfl rfl dX5_seatAll_92 ?_
      obtain ⟨h6, hF⟩ := gd_inv hF
      refine E_iald _ h5.2 (shape_ord h5.2).1 h6 dX5_seatAll_93 ?_
      obtain ⟨h7, hF⟩ := gd_inv hF
      refine E_lald _ h3.2 (shape_ord h3.2).1 h7 dX5_seatAll_94 ?_
      refine E_aload_n (j := 0) (i := 0) (q := 0) rfl rfl dX5_seatAll_95 ?_
      obtain ⟨r8, h9, hF⟩ := bd_inv hF
      have h9 := ldA_inv h9
      refine gf_RX5_25 rfl hv0 (shape_ord hv0).1 h9.1 dX5_seatAll_96 ?_
      refine E_iload_n (j := 1) (i := 1) (q := 1) rfl rfl dX5_seatAll_99 ?_
      obtain ⟨h10, hF⟩ := gd_inv hF
      obtain ⟨r11, h12, hF⟩ := bd_inv hF
      have h12 := ldO_inv h12
      refine E_aald _ ⟨Nat.le_of_ble_eq_true rfl, Nat.le_of_ble_eq_true rfl⟩ h9.2 (shape_ord h9.2).1 h10 h12.1 dX5_seatAll_100 ?_
      refine gf_RX5_137 rfl h12.2 (shape_ord h12.2).1 dX5_seatAll_101 ?_
      refine E_land dX5_seatAll_104 ?_
      refine E_lconst (v := (0 : Int64)) rfl dX5_seatAll_105 ?_
      refine E_lcmp dX5_seatAll_106 ?_
      refine E_if_eq (tgt := 112) rfl dX5_seatAll_107 (fun c13 => ?_) (fun c13 => ?_)
      · have hF := ite_t hF c13
        refine E_aload_n (j := 0) (i := 0) (q := 0) rfl rfl dX5_seatAll_112 ?_
        obtain ⟨r14, h15, hF⟩ := bd_inv hF
        have h15 := ldA_inv h15
        refine gf_RX5_52 rfl hv0 (shape_ord hv0).1 h15.1 dX5_seatAll_113 ?_
        refine E_aload_n (j := 0) (i := 0) (q := 0) rfl rfl dX5_seatAll_116 ?_
        obtain ⟨r16, h17, hF⟩ := bd_inv hF
        have h17 := ldA_inv h17
        refine gf_RX5_36 rfl hv0 (shape_ord hv0).1 h17.1 dX5_seatAll_117 ?_
        refine E_iload_n (j := 1) (i := 1) (q := 1) rfl rfl dX5_seatAll_120 ?_
        obtain ⟨h18, hF⟩ := gd_inv hF
        refine E_iald _ h17.2 (shape_ord h17.2).1 h18 dX5_seatAll_121 ?_
        refine E_dup2 rfl rfl dX5_seatAll_122 ?_
        obtain ⟨h19, hF⟩ := gd_inv hF
        refine E_lald _ h15.2 (shape_ord h15.2).1 h19 dX5_seatAll_123 ?_
        refine E_aload_n (j := 0) (i := 0) (q := 0) rfl rfl dX5_seatAll_124 ?_
        obtain ⟨r20, h21, hF⟩ := bd_inv hF
        have h21 := ldA_inv h21
        refine gf_RX5_25 rfl hv0 (shape_ord hv0).1 h21.1 dX5_seatAll_125 ?_
        refine E_iload_n (j := 1) (i := 1) (q := 1) rfl rfl dX5_seatAll_128 ?_
        obtain ⟨h22, hF⟩ := gd_inv hF
        obtain ⟨r23, h24, hF⟩ := bd_inv hF
        have h24 := ldO_inv h24
        refine E_aald _ ⟨Nat.le_of_ble_eq_true rfl, Nat.le_of_ble_eq_true rfl⟩ h21.2 (shape_ord h21.2).1 h22 h24.1 dX5_seatAll_129 ?_
        refine gf_RX5_137 rfl h24.2 (shape_ord h24.2).1 dX5_seatAll_130 ?_
        refine E_lor dX5_seatAll_133 ?_
        obtain ⟨h25, hF⟩ := gd_inv hF
        refine E_last _ h15.2 (shape_ord h15.2).1 h25 dX5_seatAll_134 ?_
        obtain ⟨m26, e27, hF⟩ := nx_inv hF
        refine E_mem e27 ?_
        refine E_iinc (q := 1) (v := (v1 + (1 : Int32))) (L' := [(1, .int (v1 + (1 : Int32))), (0, .ref v0)]) rfl rfl (Nat.le_of_ble_eq_true rfl) rfl dX5_seatAll_135 ?_
        refine E_goto (tgt := 76) rfl dX5_seatAll_138 ?_
        refine E_sub [1, 0] rfl ?_
        exact ih _ _ _ hv0 hF
      · have hF := ite_f hF c13
        refine E_iconst (v := (0 : Int32)) rfl dX5_seatAll_110 ?_
        exact E_zret (ty := .boolean) (Or.inl rfl) rfl rfl (by cases hF; exact hr) dX5_seatAll_111
set_option maxHeartbeats 4000000 in
set_option maxRecDepth 100000 in
theorem T_X5_seatAll_33 {l : Launch} (hfl : l.stackTraces = false) (fl : Nat) {r : Rs} {ρ : (Int32 × Mem)} (hr : r = (.inr (some (.int ρ.1)), NF, ρ.2)) : ∀ (n : Nat) (v0 : Nat) (v1 : Int32) (s : Mem) (hv0 : shape v0 = some (.inl 7)), B_X5_seatAll_33 fl n v0 v1 s = some ρ → E l X_X5_seatAll r false NF s 0 0 33 [(0, .ref v0), (1, .int v1)] [] := by
  intro n
  induction n with
  | zero =>
    intro v0 v1 s hv0 hF
    cases hF
  | succ n ih =>
    intro v0 v1 s hv0 hF
    refine E_iload_n (j := 1) (i := 1) (q := 1) rfl rfl dX5_seatAll_33 ?_
    refine E_aload_n (j := 0) (i := 0) (q := 0) rfl rfl dX5_seatAll_34 ?_
    refine gf_RX5_67 rfl hv0 (shape_ord hv0).1 dX5_seatAll_35 ?_
    refine E_icmp_gt (tgt := 74) rfl dX5_seatAll_38 (fun c28 => ?_) (fun c28 => ?_)
    · have hF := ite_t hF c28
      refine E_iconst (v := (0 : Int32)) rfl dX5_seatAll_74 ?_
      refine E_istore_n (j := 1) (i := 1) (L' := [(1, .int (0 : Int32)), (0, .ref v0)]) rfl (Nat.le_of_ble_eq_true rfl) rfl dX5_seatAll_75 ?_
      refine E_sub [1, 0] rfl ?_
      exact T_X5_seatAll_76 hfl fl hr  fl _ _ _ hv0 hF
    · have hF := ite_f hF c28
      refine E_aload_n (j := 0) (i := 0) (q := 0) rfl rfl dX5_seatAll_41 ?_
      obtain ⟨r29, h30, hF⟩ := bd_inv hF
      have h30 := ldA_inv h30
      refine gf_RX5_52 rfl hv0 (shape_ord hv0).1 h30.1 dX5_seatAll_42 ?_
      refine E_aload_n (j := 0) (i := 0) (q := 0) rfl rfl dX5_seatAll_45 ?_
      obtain ⟨r31, h32, hF⟩ := bd_inv hF
      have h32 := ldA_inv h32
      refine gf_RX5_33 rfl hv0 (shape_ord hv0).1 h32.1 dX5_seatAll_46 ?_
      refine E_iload_n (j := 1) (i := 1) (q := 1) rfl rfl dX5_seatAll_49 ?_
      obtain ⟨h33, hF⟩ := gd_inv hF
      refine E_iald _ h32.2 (shape_ord h32.2).1 h33 dX5_seatAll_50 ?_
      refine E_dup2 rfl rfl dX5_seatAll_51 ?_
      obtain ⟨h34, hF⟩ := gd_inv hF
      refine E_lald _ h30.2 (shape_ord h30.2).1 h34 dX5_seatAll_52 ?_
      refine E_aload_n (j := 0) (i := 0) (q := 0) rfl rfl dX5_seatAll_53 ?_
      obtain ⟨r35, h36, hF⟩ := bd_inv hF
      have h36 := ldA_inv h36
      refine gf_RX5_25 rfl hv0 (shape_ord hv0).1 h36.1 dX5_seatAll_54 ?_
      refine E_iload_n (j := 1) (i := 1) (q := 1) rfl rfl dX5_seatAll_57 ?_
      obtain ⟨h37, hF⟩ := gd_inv hF
      obtain ⟨r38, h39, hF⟩ := bd_inv hF
      have h39 := ldO_inv h39
      refine E_aald _ ⟨Nat.le_of_ble_eq_true rfl, Nat.le_of_ble_eq_true rfl⟩ h36.2 (shape_ord h36.2).1 h37 h39.1 dX5_seatAll_58 ?_
      refine gf_RX5_137 rfl h39.2 (shape_ord h39.2).1 dX5_seatAll_59 ?_
      refine E_ldc2 (v := (-1 : Int64)) wT140 dX5_seatAll_62 ?_
      refine E_lxor dX5_seatAll_65 ?_
      refine E_land dX5_seatAll_66 ?_
      obtain ⟨h40, hF⟩ := gd_inv hF
      refine E_last _ h30.2 (shape_ord h30.2).1 h40 dX5_seatAll_67 ?_
      obtain ⟨m41, e42, hF⟩ := nx_inv hF
      refine E_mem e42 ?_
      refine E_iinc (q := 1) (v := (v1 + (1 : Int32))) (L' := [(1, .int (v1 + (1 : Int32))), (0, .ref v0)]) rfl rfl (Nat.le_of_ble_eq_true rfl) rfl dX5_seatAll_68 ?_
      refine E_goto (tgt := 33) rfl dX5_seatAll_71 ?_
      refine E_sub [1, 0] rfl ?_
      exact ih _ _ _ hv0 hF
set_option maxHeartbeats 4000000 in
set_option maxRecDepth 100000 in
theorem T_X5_seatAll_2 {l : Launch} (hfl : l.stackTraces = false) (fl : Nat) {r : Rs} {ρ : (Int32 × Mem)} (hr : r = (.inr (some (.int ρ.1)), NF, ρ.2)) : ∀ (n : Nat) (v0 : Nat) (v1 : Int32) (s : Mem) (hv0 : shape v0 = some (.inl 7)), B_X5_seatAll_2 fl n v0 v1 s = some ρ → E l X_X5_seatAll r false NF s 0 0 2 [(0, .ref v0), (1, .int v1)] [] := by
  intro n
  induction n with
  | zero =>
    intro v0 v1 s hv0 hF
    cases hF
  | succ n ih =>
    intro v0 v1 s hv0 hF
    refine E_iload_n (j := 1) (i := 1) (q := 1) rfl rfl dX5_seatAll_2 ?_
    refine E_aload_n (j := 0) (i := 0) (q := 0) rfl rfl dX5_seatAll_3 ?_
    obtain ⟨r43, h44, hF⟩ := bd_inv hF
    have h44 := ldO_inv h44
    refine gf_RX5_12 rfl hv0 (shape_ord hv0).1 h44.1 dX5_seatAll_4 ?_
    refine gf_RX5_71 rfl h44.2 (shape_ord h44.2).1 dX5_seatAll_7 ?_
    refine E_icmp_ge (tgt := 31) rfl dX5_seatAll_10 (fun c45 => ?_) (fun c45 => ?_)
    · have hF := ite_t hF c45
      refine E_iconst (v := (1 : Int32)) rfl dX5_seatAll_31 ?_
      refine E_istore_n (j := 1) (i := 1) (L' := [(1, .int (1 : Int32)), (0, .ref v0)]) rfl (Nat.le_of_ble_eq_true rfl) rfl dX5_seatAll_32 ?_
      refine E_sub [1, 0] rfl ?_
      exact T_X5_seatAll_33 hfl fl hr  fl _ _ _ hv0 hF
    · have hF := ite_f hF c45
      refine E_aload_n (j := 0) (i := 0) (q := 0) rfl rfl dX5_seatAll_13 ?_
      obtain ⟨r46, h47, hF⟩ := bd_inv hF
      have h47 := ldA_inv h47
      refine gf_RX5_52 rfl hv0 (shape_ord hv0).1 h47.1 dX5_seatAll_14 ?_
      refine E_iload_n (j := 1) (i := 1) (q := 1) rfl rfl dX5_seatAll_17 ?_
      refine E_aload_n (j := 0) (i := 0) (q := 0) rfl rfl dX5_seatAll_18 ?_
      obtain ⟨r48, h49, hF⟩ := bd_inv hF
      have h49 := ldA_inv h49
      refine gf_RX5_48 rfl hv0 (shape_ord hv0).1 h49.1 dX5_seatAll_19 ?_
      refine E_iload_n (j := 1) (i := 1) (q := 1) rfl rfl dX5_seatAll_22 ?_
      obtain ⟨h50, hF⟩ := gd_inv hF
      refine E_lald _ h49.2 (shape_ord h49.2).1 h50 dX5_seatAll_23 ?_
      obtain ⟨h51, hF⟩ := gd_inv hF
      refine E_last _ h47.2 (shape_ord h47.2).1 h51 dX5_seatAll_24 ?_
      obtain ⟨m52, e53, hF⟩ := nx_inv hF
      refine E_mem e53 ?_
      refine E_iinc (q := 1) (v := (v1 + (1 : Int32))) (L' := [(1, .int (v1 + (1 : Int32))), (0, .ref v0)]) rfl rfl (Nat.le_of_ble_eq_true rfl) rfl dX5_seatAll_25 ?_
      refine E_goto (tgt := 2) rfl dX5_seatAll_28 ?_
      refine E_sub [1, 0] rfl ?_
      exact ih _ _ _ hv0 hF
set_option maxHeartbeats 4000000 in
set_option maxRecDepth 100000 in
theorem T_X5_seatAll {l : Launch} (hfl : l.stackTraces = false) (fl : Nat) (v0 : Nat) (s : Mem) (hv0 : shape v0 = some (.inl 7)) (ρ : (Int32 × Mem)) (hF : F_X5_seatAll fl v0 s = some ρ) : MetN l X_X5_seatAll false NF s [.ref v0] (.inr (some (.int ρ.1)), NF, ρ.2) := by
  unfold F_X5_seatAll at hF
  obtain ⟨r, hr⟩ : ∃ r : Rs, r = (.inr (some (.int ρ.1)), NF, ρ.2) := ⟨_, rfl⟩
  rw [← hr]
  refine met_of_E rfl rfl (by decide +kernel) hfl rfl (Nat.le_of_ble_eq_true rfl) ?_
  show E l X_X5_seatAll r false NF s 0 0 0 [(0, .ref v0)] []
  refine E_iconst (v := (0 : Int32)) rfl dX5_seatAll_0 ?_
  refine E_istore_n (j := 1) (i := 1) (L' := [(1, .int (0 : Int32)), (0, .ref v0)]) rfl (Nat.le_of_ble_eq_true rfl) rfl dX5_seatAll_1 ?_
  refine E_sub [1, 0] rfl ?_
  exact T_X5_seatAll_2 hfl fl hr  fl _ _ _ hv0 hF
set_option maxHeartbeats 4000000 in
set_option maxRecDepth 100000 in
theorem T_X5_plannedLoad_99 {l : Launch} (hfl : l.stackTraces = false) (fl : Nat) {r : Rs} {ρ : Int32} {s : Mem} (hr : r = (.inr (some (.int ρ)), NF, s)) {k15 : Nat → Int32 → Int32 → Int32 → Int32 → Option Int32} (hk15 : ∀ (v0 : Nat) (v1 : Int32) (v2 : Int32) (v3 : Int32) (v4 : Int32) (hv0 : shape v0 = some (.inl 7)), k15 v0 v1 v2 v3 v4 = some ρ → E l X_X5_plannedLoad r false NF s 0 0 15 [(0, .ref v0), (1, .int v1), (2, .int v2), (3, .int v3), (4, .int v4)] []) (v0 : Nat) (v1 : Int32) (v2 : Int32) (v3 : Int32) (v4 : Int32) (hv0 : shape v0 = some (.inl 7)) (hF : B_X5_plannedLoad_99 k15 fl s v0 v1 v2 v3 v4 = some ρ) : E l X_X5_plannedLoad r false NF s 0 0 99 [(0, .ref v0), (1, .int v1), (2, .int v2), (3, .int v3), (4, .int v4)] [] := by
  unfold B_X5_plannedLoad_99 at hF
  refine E_iinc (q := 4) (v := (v4 + (1 : Int32))) (L' := [(4, .int (v4 + (1 : Int32))), (0, .ref v0), (1, .int v1), (2, .int v2), (3, .int v3)]) rfl rfl (Nat.le_of_ble_eq_true rfl) rfl dX5_plannedLoad_99 ?_
  refine E_goto (tgt := 15) rfl dX5_plannedLoad_102 ?_
  refine E_sub [1, 2, 3, 4, 0] rfl ?_
  exact hk15 _ _ _ _ _ hv0 hF
set_option maxHeartbeats 4000000 in
set_option maxRecDepth 100000 in
theorem T_X5_plannedLoad_97 {l : Launch} (hfl : l.stackTraces = false) (fl : Nat) {r : Rs} {ρ : Int32} {s : Mem} (hr : r = (.inr (some (.int ρ)), NF, s)) {k15 : Nat → Int32 → Int32 → Int32 → Int32 → Option Int32} (hk15 : ∀ (v0 : Nat) (v1 : Int32) (v2 : Int32) (v3 : Int32) (v4 : Int32) (hv0 : shape v0 = some (.inl 7)), k15 v0 v1 v2 v3 v4 = some ρ → E l X_X5_plannedLoad r false NF s 0 0 15 [(0, .ref v0), (1, .int v1), (2, .int v2), (3, .int v3), (4, .int v4)] []) (v0 : Nat) (v1 : Int32) (v2 : Int32) (v4 : Int32) (w0 : Int32) (w1 : Int32) (hv0 : shape v0 = some (.inl 7)) (hF : B_X5_plannedLoad_97 k15 fl s v0 v1 v2 v4 w0 w1 = some ρ) : E l X_X5_plannedLoad r false NF s 0 0 97 [(0, .ref v0), (1, .int v1), (2, .int v2), (4, .int v4)] [.int w1, .int w0] := by
  unfold B_X5_plannedLoad_97 at hF
  refine E_isub dX5_plannedLoad_97 ?_
  refine E_istore_n (j := 3) (i := 3) (L' := [(3, .int (w0 - w1)), (0, .ref v0), (1, .int v1), (2, .int v2), (4, .int v4)]) rfl (Nat.le_of_ble_eq_true rfl) rfl dX5_plannedLoad_98 ?_
  refine E_sub [1, 2, 3, 0, 4] rfl ?_
  exact T_X5_plannedLoad_99 hfl fl hr hk15 _ _ _ _ _ hv0 hF
set_option maxHeartbeats 4000000 in
set_option maxRecDepth 100000 in
theorem T_X5_plannedLoad_69 {l : Launch} (hfl : l.stackTraces = false) (fl : Nat) {r : Rs} {ρ : Int32} {s : Mem} (hr : r = (.inr (some (.int ρ)), NF, s)) {k15 : Nat → Int32 → Int32 → Int32 → Int32 → Option Int32} (hk15 : ∀ (v0 : Nat) (v1 : Int32) (v2 : Int32) (v3 : Int32) (v4 : Int32) (hv0 : shape v0 = some (.inl 7)), k15 v0 v1 v2 v3 v4 = some ρ → E l X_X5_plannedLoad r false NF s 0 0 15 [(0, .ref v0), (1, .int v1), (2, .int v2), (3, .int v3), (4, .int v4)] []) (v0 : Nat) (v1 : Int32) (v2 : Int32) (v4 : Int32) (w0 : Int32) (w1 : Int32) (hv0 : shape v0 = some (.inl 7)) (hF : B_X5_plannedLoad_69 k15 fl s v0 v1 v2 v4 w0 w1 = some ρ) : E l X_X5_plannedLoad r false NF s 0 0 69 [(0, .ref v0), (1, .int v1), (2, .int v2), (4, .int v4)] [.int w1, .int w0] := by
  unfold B_X5_plannedLoad_69 at hF
  refine E_iadd dX5_plannedLoad_69 ?_
  refine E_istore_n (j := 3) (i := 3) (L' := [(3, .int (w0 + w1)), (0, .ref v0), (1, .int v1), (2, .int v2), (4, .int v4)]) rfl (Nat.le_of_ble_eq_true rfl) rfl dX5_plannedLoad_70 ?_
  refine E_iload_n (j := 3) (i := 3) (q := 0) rfl rfl dX5_plannedLoad_71 ?_
  refine E_aload_n (j := 0) (i := 0) (q := 1) rfl rfl dX5_plannedLoad_72 ?_
  obtain ⟨r1, h2, hF⟩ := bd_inv hF
  have h2 := ldA_inv h2
  refine gf_RX5_39 rfl hv0 (shape_ord hv0).1 h2.1 dX5_plannedLoad_73 ?_
  refine E_iload (q := 4) rfl dX5_plannedLoad_76 ?_
  obtain ⟨h3, hF⟩ := gd_inv hF
  refine E_iald _ h2.2 (shape_ord h2.2).1 h3 dX5_plannedLoad_78 ?_
  refine E_iload_n (j := 1) (i := 1) (q := 2) rfl rfl dX5_plannedLoad_79 ?_
  refine E_icmp_ne (tgt := 96) rfl dX5_plannedLoad_80 (fun c4 => ?_) (fun c4 => ?_)
  · have hF := ite_f hF c4
    refine E_iconst (v := (0 : Int32)) rfl dX5_plannedLoad_96 ?_
    refine E_sub [1, 2, 3, 4] rfl ?_
    exact T_X5_plannedLoad_97 hfl fl hr hk15 _ _ _ _ _ _ hv0 hF
  · have hF := ite_t hF c4
    refine E_aload_n (j := 0) (i := 0) (q := 1) rfl rfl dX5_plannedLoad_83 ?_
    obtain ⟨r5, h6, hF⟩ := bd_inv hF
    have h6 := ldA_inv h6
    refine gf_RX5_25 rfl hv0 (shape_ord hv0).1 h6.1 dX5_plannedLoad_84 ?_
    refine E_iload (q := 4) rfl dX5_plannedLoad_87 ?_
    obtain ⟨h7, hF⟩ := gd_inv hF
    obtain ⟨r8, h9, hF⟩ := bd_inv hF
    have h9 := ldO_inv h9
    refine E_aald _ ⟨Nat.le_of_ble_eq_true rfl, Nat.le_of_ble_eq_true rfl⟩ h6.2 (shape_ord h6.2).1 h7 h9.1 dX5_plannedLoad_89 ?_
    refine gf_RX5_120 rfl h9.2 (shape_ord h9.2).1 dX5_plannedLoad_90 ?_
    refine E_goto (tgt := 97) rfl dX5_plannedLoad_93 ?_
    refine E_sub [1, 2, 3, 4] rfl ?_
    exact T_X5_plannedLoad_97 hfl fl hr hk15 _ _ _ _ _ _ hv0 hF
set_option maxHeartbeats 4000000 in
set_option maxRecDepth 100000 in
theorem T_X5_plannedLoad_15 {l : Launch} (hfl : l.stackTraces = false) (fl : Nat) {r : Rs} {ρ : Int32} {s : Mem} (hr : r = (.inr (some (.int ρ)), NF, s)) : ∀ (n : Nat) (v0 : Nat) (v1 : Int32) (v2 : Int32) (v3 : Int32) (v4 : Int32) (hv0 : shape v0 = some (.inl 7)), B_X5_plannedLoad_15 fl s n v0 v1 v2 v3 v4 = some ρ → E l X_X5_plannedLoad r false NF s 0 0 15 [(0, .ref v0), (1, .int v1), (2, .int v2), (3, .int v3), (4, .int v4)] [] := by
  intro n
  induction n with
  | zero =>
    intro v0 v1 v2 v3 v4 hv0 hF
    cases hF
  | succ n ih =>
    intro v0 v1 v2 v3 v4 hv0 hF
    refine E_iload (q := 4) rfl dX5_plannedLoad_15 ?_
    refine E_aload_n (j := 0) (i := 0) (q := 0) rfl rfl dX5_plannedLoad_17 ?_
    refine gf_RX5_67 rfl hv0 (shape_ord hv0).1 dX5_plannedLoad_18 ?_
    refine E_icmp_gt (tgt := 105) rfl dX5_plannedLoad_21 (fun c10 => ?_) (fun c10 => ?_)
    · have hF := ite_t hF c10
      refine E_iload_n (j := 3) (i := 3) (q := 3) rfl rfl dX5_plannedLoad_105 ?_
      exact E_iret (Or.inl rfl) rfl (by cases hF; exact hr) dX5_plannedLoad_106
    · have hF := ite_f hF c10
      refine E_aload_n (j := 0) (i := 0) (q := 0) rfl rfl dX5_plannedLoad_24 ?_
      obtain ⟨r11, h12, hF⟩ := bd_inv hF
      have h12 := ldA_inv h12
      refine gf_RX5_25 rfl hv0 (shape_ord hv0).1 h12.1 dX5_plannedLoad_25 ?_
      refine E_iload (q := 4) rfl dX5_plannedLoad_28 ?_
      obtain ⟨h13, hF⟩ := gd_inv hF
      obtain ⟨r14, h15, hF⟩ := bd_inv hF
      have h15 := ldO_inv h15
      refine E_aald _ ⟨Nat.le_of_ble_eq_true rfl, Nat.le_of_ble_eq_true rfl⟩ h12.2 (shape_ord h12.2).1 h13 h15.1 dX5_plannedLoad_30 ?_
      refine gf_RX5_137 rfl h15.2 (shape_ord h15.2).1 dX5_plannedLoad_31 ?_
      refine E_iload_n (j := 2) (i := 2) (q := 2) rfl rfl dX5_plannedLoad_34 ?_
      refine E_lushr dX5_plannedLoad_35 ?_
      refine E_lconst (v := (1 : Int64)) rfl dX5_plannedLoad_36 ?_
      refine E_land dX5_plannedLoad_37 ?_
      refine E_lconst (v := (0 : Int64)) rfl dX5_plannedLoad_38 ?_
      refine E_lcmp dX5_plannedLoad_39 ?_
      refine E_if_eq (tgt := 99) rfl dX5_plannedLoad_40 (fun c16 => ?_) (fun c16 => ?_)
      · have hF := ite_t hF c16
        refine E_sub [0, 1, 2, 3, 4] rfl ?_
        exact T_X5_plannedLoad_99 hfl fl hr ih _ _ _ _ _ hv0 hF
      · have hF := ite_f hF c16
        refine E_iload_n (j := 3) (i := 3) (q := 3) rfl rfl dX5_plannedLoad_43 ?_
        refine E_aload_n (j := 0) (i := 0) (q := 0) rfl rfl dX5_plannedLoad_44 ?_
        obtain ⟨r17, h18, hF⟩ := bd_inv hF
        have h18 := ldA_inv h18
        refine gf_RX5_42 rfl hv0 (shape_ord hv0).1 h18.1 dX5_plannedLoad_45 ?_
        refine E_iload (q := 4) rfl dX5_plannedLoad_48 ?_
        obtain ⟨h19, hF⟩ := gd_inv hF
        refine E_iald _ h18.2 (shape_ord h18.2).1 h19 dX5_plannedLoad_50 ?_
        refine E_iload_n (j := 1) (i := 1) (q := 1) rfl rfl dX5_plannedLoad_51 ?_
        refine E_icmp_ne (tgt := 68) rfl dX5_plannedLoad_52 (fun c20 => ?_) (fun c20 => ?_)
        · have hF := ite_f hF c20
          refine E_iconst (v := (0 : Int32)) rfl dX5_plannedLoad_68 ?_
          refine E_sub [0, 1, 2, 4] rfl ?_
          exact T_X5_plannedLoad_69 hfl fl hr ih _ _ _ _ _ _ hv0 hF
        · have hF := ite_t hF c20
          refine E_aload_n (j := 0) (i := 0) (q := 0) rfl rfl dX5_plannedLoad_55 ?_
          obtain ⟨r21, h22, hF⟩ := bd_inv hF
          have h22 := ldA_inv h22
          refine gf_RX5_25 rfl hv0 (shape_ord hv0).1 h22.1 dX5_plannedLoad_56 ?_
          refine E_iload (q := 4) rfl dX5_plannedLoad_59 ?_
          obtain ⟨h23, hF⟩ := gd_inv hF
          obtain ⟨r24, h25, hF⟩ := bd_inv hF
          have h25 := ldO_inv h25
          refine E_aald _ ⟨Nat.le_of_ble_eq_true rfl, Nat.le_of_ble_eq_true rfl⟩ h22.2 (shape_ord h22.2).1 h23 h25.1 dX5_plannedLoad_61 ?_
          refine gf_RX5_120 rfl h25.2 (shape_ord h25.2).1 dX5_plannedLoad_62 ?_
          refine E_goto (tgt := 69) rfl dX5_plannedLoad_65 ?_
          refine E_sub [0, 1, 2, 4] rfl ?_
          exact T_X5_plannedLoad_69 hfl fl hr ih _ _ _ _ _ _ hv0 hF
set_option maxHeartbeats 4000000 in
set_option maxRecDepth 100000 in
theorem T_X5_plannedLoad {l : Launch} (hfl : l.stackTraces = false) (fl : Nat) (v0 : Nat) (v1 : Int32) (v2 : Int32) (s : Mem) (hv0 : shape v0 = some (.inl 7)) (ρ : Int32) (hF : F_X5_plannedLoad fl v0 v1 v2 s = some ρ) : MetN l X_X5_plannedLoad false NF s [.ref v0, .int v1, .int v2] (.inr (some (.int ρ)), NF, s) := by
  unfold F_X5_plannedLoad at hF
  obtain ⟨r, hr⟩ : ∃ r : Rs, r = (.inr (some (.int ρ)), NF, s) := ⟨_, rfl⟩
  rw [← hr]
  refine met_of_E rfl rfl (by decide +kernel) hfl rfl (Nat.le_of_ble_eq_true rfl) ?_
  show E l X_X5_plannedLoad r false NF s 0 0 0 [(0, .ref v0), (1, .int v1), (2, .int v2)] []
  refine E_aload_n (j := 0) (i := 0) (q := 0) rfl rfl dX5_plannedLoad_0 ?_
  obtain ⟨r26, h27, hF⟩ := bd_inv hF
  have h27 := ldA_inv h27
  refine gf_RX5_55 rfl hv0 (shape_ord hv0).1 h27.1 dX5_plannedLoad_1 ?_
  refine E_iload_n (j := 1) (i := 1) (q := 1) rfl rfl dX5_plannedLoad_4 ?_
  refine E_bipush (v := (60 : Int32)) rfl dX5_plannedLoad_5 ?_
  refine E_imul dX5_plannedLoad_7 ?_
  refine E_iload_n (j := 2) (i := 2) (q := 2) rfl rfl dX5_plannedLoad_8 ?_
  refine E_iadd dX5_plannedLoad_9 ?_
  obtain ⟨h28, hF⟩ := gd_inv hF
  refine E_iald _ h27.2 (shape_ord h27.2).1 h28 dX5_plannedLoad_10 ?_
  refine E_istore_n (j := 3) (i := 3) (L' := [(3, .int (gI s r26.1 ((v1 * (60 : Int32)) + v2).toNatClampNeg)), (0, .ref v0), (1, .int v1), (2, .int v2)]) rfl (Nat.le_of_ble_eq_true rfl) rfl dX5_plannedLoad_11 ?_
  refine E_iconst (v := (0 : Int32)) rfl dX5_plannedLoad_12 ?_
  refine E_istore (L' := [(4, .int (0 : Int32)), (3, .int (gI s r26.1 ((v1 * (60 : Int32)) + v2).toNatClampNeg)), (0, .ref v0), (1, .int v1), (2, .int v2)]) (Nat.le_of_ble_eq_true rfl) rfl dX5_plannedLoad_13 ?_
  refine E_sub [2, 3, 4, 1, 0] rfl ?_
  exact T_X5_plannedLoad_15 hfl fl hr  fl _ _ _ _ _ hv0 hF
set_option maxHeartbeats 4000000 in
set_option maxRecDepth 100000 in
theorem T_X5_hasPower_55 {l : Launch} (hfl : l.stackTraces = false) (fl : Nat) {r : Rs} {ρ : Int32} {s : Mem} (hr : r = (.inr (some (.int ρ)), NF, s)) {k2 : Nat → Int32 → Option Int32} (hk2 : ∀ (v0 : Nat) (v1 : Int32) (hv0 : shape v0 = some (.inl 7)), k2 v0 v1 = some ρ → E l X_X5_hasPower r false NF s 0 0 2 [(0, .ref v0), (1, .int v1)] []) : ∀ (n : Nat) (v0 : Nat) (v1 : Int32) (v2 : Int32) (v4 : Int32) (v5 : Int32) (hv0 : shape v0 = some (.inl 7)), B_X5_hasPower_55 k2 fl s n v0 v1 v2 v4 v5 = some ρ → E l X_X5_hasPower r false NF s 0 0 55 [(0, .ref v0), (1, .int v1), (2, .int v2), (4, .int v4), (5, .int v5)] [] := by
  intro n
  induction n with
  | zero =>
    intro v0 v1 v2 v4 v5 hv0 hF
    cases hF
  | succ n ih =>
    intro v0 v1 v2 v4 v5 hv0 hF
    refine E_iload (q := 4) rfl dX5_hasPower_55 ?_
    refine E_iload (q := 3) rfl dX5_hasPower_57 ?_
    refine E_icmp_ge (tgt := 89) rfl dX5_hasPower_59 (fun c1 => ?_) (fun c1 => ?_)
    · have hF := ite_t hF c1
      refine E_iinc (q := 1) (v := (v1 + (1 : Int32))) (L' := [(1, .int (v1 + (1 : Int32))), (0, .ref v0), (2, .int v2), (4, .int v4), (5, .int v5)]) rfl rfl (Nat.le_of_ble_eq_true rfl) rfl dX5_hasPower_89 ?_
      refine E_goto (tgt := 2) rfl dX5_hasPower_92 ?_
      refine E_sub [1, 0] rfl ?_
      exact hk2 _ _ hv0 hF
    · have hF := ite_f hF c1
      refine E_aload_n (j := 0) (i := 0) (q := 0) rfl rfl dX5_hasPower_62 ?_
      refine E_iload_n (j := 2) (i := 2) (q := 2) rfl rfl dX5_hasPower_63 ?_
      refine E_iload (q := 4) rfl dX5_hasPower_64 ?_
      obtain ⟨q2, h3, hF⟩ := bd_inv hF
      refine E_callV (na := 2) (As := [.int v2, .int v5]) (S := []) (kc := 0) (ks := 0) (ci := 7) rfl rfl hv0 (shape_ord hv0).1 cwV_RX5_169 ⟨Nat.le_of_ble_eq_true rfl, Nat.le_of_ble_eq_true rfl⟩ (T_X5_plannedLoad hfl fl _ _ _ _ hv0 _ h3) rfl rfl rfl (Nat.le_of_ble_eq_true rfl) dX5_hasPower_66 ?_
      refine E_aload_n (j := 0) (i := 0) (q := 0) rfl rfl dX5_hasPower_69 ?_
      obtain ⟨r4, h5, hF⟩ := bd_inv hF
      have h5 := ldO_inv h5
      refine gf_RX5_12 rfl hv0 (shape_ord hv0).1 h5.1 dX5_hasPower_70 ?_
      obtain ⟨r6, h7, hF⟩ := bd_inv hF
      have h7 := ldA_inv h7
      refine gf_RX5_173 rfl h5.2 (shape_ord h5.2).1 h7.1 dX5_hasPower_73 ?_
      refine E_iload_n (j := 2) (i := 2) (q := 2) rfl rfl dX5_hasPower_76 ?_
      obtain ⟨h8, hF⟩ := gd_inv hF
      refine E_iald _ h7.2 (shape_ord h7.2).1 h8 dX5_hasPower_77 ?_
      refine E_icmp_le (tgt := 83) rfl dX5_hasPower_78 (fun c9 => ?_) (fun c9 => ?_)
      · have hF := ite_t hF c9
        refine E_iinc (q := 4) (v := (v5 + (1 : Int32))) (L' := [(5, .int (v5 + (1 : Int32))), (0, .ref v0), (1, .int v1), (2, .int v2), (4, .int v4)]) rfl rfl (Nat.le_of_ble_eq_true rfl) rfl dX5_hasPower_83 ?_
        refine E_goto (tgt := 55) rfl dX5_hasPower_86 ?_
        refine E_sub [1, 2, 3, 4, 0] rfl ?_
        exact ih _ _ _ _ _ hv0 hF
      · have hF := ite_f hF c9
        refine E_iconst (v := (0 : Int32)) rfl dX5_hasPower_81 ?_
        exact E_zret (ty := .boolean) (Or.inl rfl) rfl rfl (by cases hF; exact hr) dX5_hasPower_82
set_option maxHeartbeats 4000000 in
set_option maxRecDepth 100000 in
theorem T_X5_hasPower_47 {l : Launch} (hfl : l.stackTraces = false) (fl : Nat) {r : Rs} {ρ : Int32} {s : Mem} (hr : r = (.inr (some (.int ρ)), NF, s)) {k2 : Nat → Int32 → Option Int32} (hk2 : ∀ (v0 : Nat) (v1 : Int32) (hv0 : shape v0 = some (.inl 7)), k2 v0 v1 = some ρ → E l X_X5_hasPower r false NF s 0 0 2 [(0, .ref v0), (1, .int v1)] []) (v0 : Nat) (v1 : Int32) (v2 : Int32) (v3 : Nat) (w0 : Int32) (hv0 : shape v0 = some (.inl 7)) (hv3 : shape v3 = some (.inl 5)) (hF : B_X5_hasPower_47 k2 fl s v0 v1 v2 v3 w0 = some ρ) : E l X_X5_hasPower r false NF s 0 0 47 [(0, .ref v0), (1, .int v1), (2, .int v2), (3, .ref v3)] [.int w0] := by
  unfold B_X5_hasPower_47 at hF
  refine E_istore (L' := [(4, .int w0), (0, .ref v0), (1, .int v1), (2, .int v2), (3, .ref v3)]) (Nat.le_of_ble_eq_true rfl) rfl dX5_hasPower_47 ?_
  refine E_aload_n (j := 3) (i := 3) (q := 4) rfl rfl dX5_hasPower_49 ?_
  refine gf_RX5_114 rfl hv3 (shape_ord hv3).1 dX5_hasPower_50 ?_
  refine E_istore (L' := [(5, .int (gI s v3 4)), (4, .int w0), (0, .ref v0), (1, .int v1), (2, .int v2), (3, .ref v3)]) (Nat.le_of_ble_eq_true rfl) rfl dX5_hasPower_53 ?_
  refine E_sub [2, 3, 4, 1, 0] rfl ?_
  exact T_X5_hasPower_55 hfl fl hr hk2 fl _ _ _ _ _ hv0 hF
set_option maxHeartbeats 4000000 in
set_option maxRecDepth 100000 in
theorem T_X5_hasPower_2 {l : Launch} (hfl : l.stackTraces = false) (fl : Nat) {r : Rs} {ρ : Int32} {s : Mem} (hr : r = (.inr (some (.int ρ)), NF, s)) : ∀ (n : Nat) (v0 : Nat) (v1 : Int32) (hv0 : shape v0 = some (.inl 7)), B_X5_hasPower_2 fl s n v0 v1 = some ρ → E l X_X5_hasPower r false NF s 0 0 2 [(0, .ref v0), (1, .int v1)] [] := by
  intro n
  induction n with
  | zero =>
    intro v0 v1 hv0 hF
    cases hF
  | succ n ih =>
    intro v0 v1 hv0 hF
    refine E_iload_n (j := 1) (i := 1) (q := 1) rfl rfl dX5_hasPower_2 ?_
    refine E_aload_n (j := 0) (i := 0) (q := 0) rfl rfl dX5_hasPower_3 ?_
    refine gf_RX5_67 rfl hv0 (shape_ord hv0).1 dX5_hasPower_4 ?_
    refine E_icmp_gt (tgt := 95) rfl dX5_hasPower_7 (fun c10 => ?_) (fun c10 => ?_)
    · have hF := ite_t hF c10
      refine E_iconst (v := (1 : Int32)) rfl dX5_hasPower_95 ?_
      exact E_zret (ty := .boolean) (Or.inl rfl) rfl rfl (by cases hF; exact hr) dX5_hasPower_96
    · have hF := ite_f hF c10
      refine E_aload_n (j := 0) (i := 0) (q := 0) rfl rfl dX5_hasPower_10 ?_
      obtain ⟨r11, h12, hF⟩ := bd_inv hF
      have h12 := ldA_inv h12
      refine gf_RX5_42 rfl hv0 (shape_ord hv0).1 h12.1 dX5_hasPower_11 ?_
      refine E_iload_n (j := 1) (i := 1) (q := 1) rfl rfl dX5_hasPower_14 ?_
      obtain ⟨h13, hF⟩ := gd_inv hF
      refine E_iald _ h12.2 (shape_ord h12.2).1 h13 dX5_hasPower_15 ?_
      refine E_istore_n (j := 2) (i := 2) (L' := [(2, .int (gI s r11.1 v1.toNatClampNeg)), (0, .ref v0), (1, .int v1)]) rfl (Nat.le_of_ble_eq_true rfl) rfl dX5_hasPower_16 ?_
      refine E_aload_n (j := 0) (i := 0) (q := 1) rfl rfl dX5_hasPower_17 ?_
      obtain ⟨r14, h15, hF⟩ := bd_inv hF
      have h15 := ldA_inv h15
      refine gf_RX5_25 rfl hv0 (shape_ord hv0).1 h15.1 dX5_hasPower_18 ?_
      refine E_iload_n (j := 1) (i := 1) (q := 2) rfl rfl dX5_hasPower_21 ?_
      obtain ⟨h16, hF⟩ := gd_inv hF
      obtain ⟨r17, h18, hF⟩ := bd_inv hF
      have h18 := ldO_inv h18
      refine E_aald _ ⟨Nat.le_of_ble_eq_true rfl, Nat.le_of_ble_eq_true rfl⟩ h15.2 (shape_ord h15.2).1 h16 h18.1 dX5_hasPower_22 ?_
      refine E_astore_n (j := 3) (i := 3) (L' := [(3, .ref r17), (2, .int (gI s r11.1 v1.toNatClampNeg)), (0, .ref v0), (1, .int v1)]) rfl (Nat.le_of_ble_eq_true rfl) rfl dX5_hasPower_23 ?_
      refine E_iload_n (j := 2) (i := 2) (q := 1) rfl rfl dX5_hasPower_24 ?_
      obtain ⟨q19, h20, hF⟩ := bd_inv hF
      refine E_callSN (na := 1) (As := [.int (gI s r11.1 v1.toNatClampNeg)]) (S := []) (kc := 0) (ks := 0) cwNS_RX5_107 ⟨Nat.le_of_ble_eq_true rfl, Nat.le_of_ble_eq_true rfl⟩ (T_X7_isCircuit hfl fl _ _  _ h20) rfl rfl rfl (Nat.le_of_ble_eq_true rfl) dX5_hasPower_25 ?_
      refine E_if_eq (tgt := 43) rfl dX5_hasPower_28 (fun c21 => ?_) (fun c21 => ?_)
      · have hF := ite_t hF c21
        refine E_aload_n (j := 3) (i := 3) (q := 0) rfl rfl dX5_hasPower_43 ?_
        refine gf_RX5_114 rfl h18.2 (shape_ord h18.2).1 dX5_hasPower_44 ?_
        refine E_sub [2, 3, 1, 0] rfl ?_
        exact T_X5_hasPower_47 hfl fl hr ih _ _ _ _ _ hv0 h18.2 hF
      · have hF := ite_f hF c21
        refine E_aload_n (j := 3) (i := 3) (q := 0) rfl rfl dX5_hasPower_31 ?_
        refine gf_RX5_114 rfl h18.2 (shape_ord h18.2).1 dX5_hasPower_32 ?_
        refine E_aload_n (j := 3) (i := 3) (q := 0) rfl rfl dX5_hasPower_35 ?_
        refine gf_RX5_117 rfl h18.2 (shape_ord h18.2).1 dX5_hasPower_36 ?_
        refine E_iadd dX5_hasPower_39 ?_
        refine E_goto (tgt := 47) rfl dX5_hasPower_40 ?_
        refine E_sub [2, 3, 1, 0] rfl ?_
        exact T_X5_hasPower_47 hfl fl hr ih _ _ _ _ _ hv0 h18.2 hF
set_option maxHeartbeats 4000000 in
set_option maxRecDepth 100000 in
theorem T_X5_hasPower {l : Launch} (hfl : l.stackTraces = false) (fl : Nat) (v0 : Nat) (s : Mem) (hv0 : shape v0 = some (.inl 7)) (ρ : Int32) (hF : F_X5_hasPower fl v0 s = some ρ) : MetN l X_X5_hasPower false NF s [.ref v0] (.inr (some (.int ρ)), NF, s) := by
  unfold F_X5_hasPower at hF
  obtain ⟨r, hr⟩ : ∃ r : Rs, r = (.inr (some (.int ρ)), NF, s) := ⟨_, rfl⟩
  rw [← hr]
  refine met_of_E rfl rfl (by decide +kernel) hfl rfl (Nat.le_of_ble_eq_true rfl) ?_
  show E l X_X5_hasPower r false NF s 0 0 0 [(0, .ref v0)] []
  refine E_iconst (v := (0 : Int32)) rfl dX5_hasPower_0 ?_
  refine E_istore_n (j := 1) (i := 1) (L' := [(1, .int (0 : Int32)), (0, .ref v0)]) rfl (Nat.le_of_ble_eq_true rfl) rfl dX5_hasPower_1 ?_
  refine E_sub [1, 0] rfl ?_
  exact T_X5_hasPower_2 hfl fl hr  fl _ _ hv0 hF
set_option maxHeartbeats 4000000 in
set_option maxRecDepth 100000 in
theorem T_X5_makesGaps_67 {l : Launch} (hfl : l.stackTraces = false) (fl : Nat) {r : Rs} {ρ : Int32} {s : Mem} (hr : r = (.inr (some (.int ρ)), NF, s)) {k4 : Nat → Int32 → Int32 → Option Int32} (hk4 : ∀ (v0 : Nat) (v1 : Int32) (v2 : Int32) (hv0 : shape v0 = some (.inl 7)), k4 v0 v1 v2 = some ρ → E l X_X5_makesGaps r false NF s 0 0 4 [(0, .ref v0), (1, .int v1), (2, .int v2)] []) (v0 : Nat) (v1 : Int32) (v2 : Int32) (hv0 : shape v0 = some (.inl 7)) (hF : B_X5_makesGaps_67 k4 fl s v0 v1 v2 = some ρ) : E l X_X5_makesGaps r false NF s 0 0 67 [(0, .ref v0), (1, .int v1), (2, .int v2)] [] := by
  unfold B_X5_makesGaps_67 at hF
  refine E_iinc (q := 2) (v := (v2 + (1 : Int32))) (L' := [(2, .int (v2 + (1 : Int32))), (0, .ref v0), (1, .int v1)]) rfl rfl (Nat.le_of_ble_eq_true rfl) rfl dX5_makesGaps_67 ?_
  refine E_goto (tgt := 4) rfl dX5_makesGaps_70 ?_
  refine E_sub [1, 2, 0] rfl ?_
  exact hk4 _ _ _ hv0 hF
set_option maxHeartbeats 4000000 in
set_option maxRecDepth 100000 in
theorem T_X5_makesGaps_4 {l : Launch} (hfl : l.stackTraces = false) (fl : Nat) {r : Rs} {ρ : Int32} {s : Mem} (hr : r = (.inr (some (.int ρ)), NF, s)) : ∀ (n : Nat) (v0 : Nat) (v1 : Int32) (v2 : Int32) (hv0 : shape v0 = some (.inl 7)), B_X5_makesGaps_4 fl s n v0 v1 v2 = some ρ → E l X_X5_makesGaps r false NF s 0 0 4 [(0, .ref v0), (1, .int v1), (2, .int v2)] [] := by
  intro n
  induction n with
  | zero =>
    intro v0 v1 v2 hv0 hF
    cases hF
  | succ n ih =>
    intro v0 v1 v2 hv0 hF
    refine E_iload_n (j := 2) (i := 2) (q := 2) rfl rfl dX5_makesGaps_4 ?_
    refine E_aload_n (j := 0) (i := 0) (q := 0) rfl rfl dX5_makesGaps_5 ?_
    obtain ⟨r1, h2, hF⟩ := bd_inv hF
    have h2 := ldO_inv h2
    refine gf_RX5_12 rfl hv0 (shape_ord hv0).1 h2.1 dX5_makesGaps_6 ?_
    refine gf_RX5_71 rfl h2.2 (shape_ord h2.2).1 dX5_makesGaps_9 ?_
    refine E_icmp_ge (tgt := 73) rfl dX5_makesGaps_12 (fun c3 => ?_) (fun c3 => ?_)
    · have hF := ite_t hF c3
      refine E_iload_n (j := 1) (i := 1) (q := 1) rfl rfl dX5_makesGaps_73 ?_
      refine E_if_le (tgt := 81) rfl dX5_makesGaps_74 (fun c4 => ?_) (fun c4 => ?_)
      · have hF := ite_t hF c4
        refine E_iconst (v := (0 : Int32)) rfl dX5_makesGaps_81 ?_
        exact E_zret (ty := .boolean) (Or.inl rfl) rfl rfl (by cases hF; exact hr) dX5_makesGaps_82
      · have hF := ite_f hF c4
        refine E_iconst (v := (1 : Int32)) rfl dX5_makesGaps_77 ?_
        refine E_goto (tgt := 82) rfl dX5_makesGaps_78 ?_
        exact E_zret (ty := .boolean) (Or.inl rfl) rfl rfl (by cases hF; exact hr) dX5_makesGaps_82
    · have hF := ite_f hF c3
      refine E_aload_n (j := 0) (i := 0) (q := 0) rfl rfl dX5_makesGaps_15 ?_
      obtain ⟨r5, h6, hF⟩ := bd_inv hF
      have h6 := ldA_inv h6
      refine gf_RX5_52 rfl hv0 (shape_ord hv0).1 h6.1 dX5_makesGaps_16 ?_
      refine E_iload_n (j := 2) (i := 2) (q := 2) rfl rfl dX5_makesGaps_19 ?_
      obtain ⟨h7, hF⟩ := gd_inv hF
      refine E_lald _ h6.2 (shape_ord h6.2).1 h7 dX5_makesGaps_20 ?_
      refine E_aload_n (j := 0) (i := 0) (q := 0) rfl rfl dX5_makesGaps_21 ?_
      obtain ⟨r8, h9, hF⟩ := bd_inv hF
      have h9 := ldA_inv h9
      refine gf_RX5_48 rfl hv0 (shape_ord hv0).1 h9.1 dX5_makesGaps_22 ?_
      refine E_iload_n (j := 2) (i := 2) (q := 2) rfl rfl dX5_makesGaps_25 ?_
      obtain ⟨h10, hF⟩ := gd_inv hF
      refine E_lald _ h9.2 (shape_ord h9.2).1 h10 dX5_makesGaps_26 ?_
      refine E_lcmp dX5_makesGaps_27 ?_
      refine E_if_eq (tgt := 67) rfl dX5_makesGaps_28 (fun c11 => ?_) (fun c11 => ?_)
      · have hF := ite_t hF c11
        refine E_sub [0, 1, 2] rfl ?_
        exact T_X5_makesGaps_67 hfl fl hr ih _ _ _ hv0 hF
      · have hF := ite_f hF c11
        refine E_iload_n (j := 1) (i := 1) (q := 1) rfl rfl dX5_makesGaps_31 ?_
        refine E_aload_n (j := 0) (i := 0) (q := 0) rfl rfl dX5_makesGaps_32 ?_
        obtain ⟨r12, h13, hF⟩ := bd_inv hF
        have h13 := ldO_inv h13
        refine gf_RX5_12 rfl hv0 (shape_ord hv0).1 h13.1 dX5_makesGaps_33 ?_
        refine E_aload_n (j := 0) (i := 0) (q := 0) rfl rfl dX5_makesGaps_36 ?_
        obtain ⟨r14, h15, hF⟩ := bd_inv hF
        have h15 := ldA_inv h15
        refine gf_RX5_52 rfl hv0 (shape_ord hv0).1 h15.1 dX5_makesGaps_37 ?_
        refine E_iload_n (j := 2) (i := 2) (q := 2) rfl rfl dX5_makesGaps_40 ?_
        obtain ⟨h16, hF⟩ := gd_inv hF
        refine E_lald _ h15.2 (shape_ord h15.2).1 h16 dX5_makesGaps_41 ?_
        obtain ⟨q17, h18, hF⟩ := bd_inv hF
        refine E_callV (na := 1) (As := [.long (gL s r14.1 v2.toNatClampNeg)]) (S := [.int v1]) (kc := 0) (ks := 0) (ci := 3) rfl rfl h13.2 (shape_ord h13.2).1 cwV_RX5_176 ⟨Nat.le_of_ble_eq_true rfl, Nat.le_of_ble_eq_true rfl⟩ (T_X1_gapEdges hfl fl _ _ _ h13.2 _ h18) rfl rfl rfl (Nat.le_of_ble_eq_true rfl) dX5_makesGaps_42 ?_
        obtain ⟨q19, h20, hF⟩ := bd_inv hF
        refine E_callS (na := 1) (As := [.long q17]) (S := [.int v1]) (kc := 0) (ks := 0) cwS_RX5_180 ⟨Nat.le_of_ble_eq_true rfl, Nat.le_of_ble_eq_true rfl⟩ (T_J13_bitCount_95d88 hfl fl _ _  _ h20) rfl rfl rfl (Nat.le_of_ble_eq_true rfl) dX5_makesGaps_45 ?_
        refine E_aload_n (j := 0) (i := 0) (q := 0) rfl rfl dX5_makesGaps_48 ?_
        obtain ⟨r21, h22, hF⟩ := bd_inv hF
        have h22 := ldO_inv h22
        refine gf_RX5_12 rfl hv0 (shape_ord hv0).1 h22.1 dX5_makesGaps_49 ?_
        refine E_aload_n (j := 0) (i := 0) (q := 0) rfl rfl dX5_makesGaps_52 ?_
        obtain ⟨r23, h24, hF⟩ := bd_inv hF
        have h24 := ldA_inv h24
        refine gf_RX5_48 rfl hv0 (shape_ord hv0).1 h24.1 dX5_makesGaps_53 ?_
        refine E_iload_n (j := 2) (i := 2) (q := 2) rfl rfl dX5_makesGaps_56 ?_
        obtain ⟨h25, hF⟩ := gd_inv hF
        refine E_lald _ h24.2 (shape_ord h24.2).1 h25 dX5_makesGaps_57 ?_
        obtain ⟨q26, h27, hF⟩ := bd_inv hF
        refine E_callV (na := 1) (As := [.long (gL s r23.1 v2.toNatClampNeg)]) (S := [.int q19, .int v1]) (kc := 0) (ks := 0) (ci := 3) rfl rfl h22.2 (shape_ord h22.2).1 cwV_RX5_176 ⟨Nat.le_of_ble_eq_true rfl, Nat.le_of_ble_eq_true rfl⟩ (T_X1_gapEdges hfl fl _ _ _ h22.2 _ h27) rfl rfl rfl (Nat.le_of_ble_eq_true rfl) dX5_makesGaps_58 ?_
        obtain ⟨q28, h29, hF⟩ := bd_inv hF
        refine E_callS (na := 1) (As := [.long q26]) (S := [.int q19, .int v1]) (kc := 0) (ks := 0) cwS_RX5_180 ⟨Nat.le_of_ble_eq_true rfl, Nat.le_of_ble_eq_true rfl⟩ (T_J13_bitCount_95d88 hfl fl _ _  _ h29) rfl rfl rfl (Nat.le_of_ble_eq_true rfl) dX5_makesGaps_61 ?_
        refine E_isub dX5_makesGaps_64 ?_
        refine E_iadd dX5_makesGaps_65 ?_
        refine E_istore_n (j := 1) (i := 1) (L' := [(1, .int (v1 + (q19 - q28))), (0, .ref v0), (2, .int v2)]) rfl (Nat.le_of_ble_eq_true rfl) rfl dX5_makesGaps_66 ?_
        refine E_sub [1, 0, 2] rfl ?_
        exact T_X5_makesGaps_67 hfl fl hr ih _ _ _ hv0 hF
set_option maxHeartbeats 4000000 in
set_option maxRecDepth 100000 in
theorem T_X5_makesGaps {l : Launch} (hfl : l.stackTraces = false) (fl : Nat) (v0 : Nat) (s : Mem) (hv0 : shape v0 = some (.inl 7)) (ρ : Int32) (hF : F_X5_makesGaps fl v0 s = some ρ) : MetN l X_X5_makesGaps false NF s [.ref v0] (.inr (some (.int ρ)), NF, s) := by
  unfold F_X5_makesGaps at hF
  obtain ⟨r, hr⟩ : ∃ r : Rs, r = (.inr (some (.int ρ)), NF, s) := ⟨_, rfl⟩
  rw [← hr]
  refine met_of_E rfl rfl (by decide +kernel) hfl rfl (Nat.le_of_ble_eq_true rfl) ?_
  show E l X_X5_makesGaps r false NF s 0 0 0 [(0, .ref v0)] []
  refine E_iconst (v := (0 : Int32)) rfl dX5_makesGaps_0 ?_
  refine E_istore_n (j := 1) (i := 1) (L' := [(1, .int (0 : Int32)), (0, .ref v0)]) rfl (Nat.le_of_ble_eq_true rfl) rfl dX5_makesGaps_1 ?_
  refine E_iconst (v := (0 : Int32)) rfl dX5_makesGaps_2 ?_
  refine E_istore_n (j := 2) (i := 2) (L' := [(2, .int (0 : Int32)), (1, .int (0 : Int32)), (0, .ref v0)]) rfl (Nat.le_of_ble_eq_true rfl) rfl dX5_makesGaps_3 ?_
  refine E_sub [2, 1, 0] rfl ?_
  exact T_X5_makesGaps_4 hfl fl hr  fl _ _ _ hv0 hF
set_option maxHeartbeats 4000000 in
set_option maxRecDepth 100000 in
theorem T_X5_isRight {l : Launch} (hfl : l.stackTraces = false) (fl : Nat) (v0 : Nat) (s : Mem) (hv0 : shape v0 = some (.inl 7)) (ρ : (Int32 × Mem)) (hF : F_X5_isRight fl v0 s = some ρ) : MetN l X_X5_isRight false NF s [.ref v0] (.inr (some (.int ρ.1)), NF, ρ.2) := by
  unfold F_X5_isRight at hF
  obtain ⟨r, hr⟩ : ∃ r : Rs, r = (.inr (some (.int ρ.1)), NF, ρ.2) := ⟨_, rfl⟩
  rw [← hr]
  refine met_of_E rfl rfl (by decide +kernel) hfl rfl (Nat.le_of_ble_eq_true rfl) ?_
  show E l X_X5_isRight r false NF s 0 0 0 [(0, .ref v0)] []
  refine E_aload_n (j := 0) (i := 0) (q := 0) rfl rfl dX5_isRight_0 ?_
  obtain ⟨q1, h2, hF⟩ := bd_inv hF
  refine E_callV (na := 0) (As := []) (S := []) (kc := 0) (ks := 0) (ci := 7) rfl rfl hv0 (shape_ord hv0).1 cwV_RX5_154 ⟨Nat.le_of_ble_eq_true rfl, Nat.le_of_ble_eq_true rfl⟩ (T_X5_seatAll hfl fl _ _ hv0 _ h2) rfl rfl rfl (Nat.le_of_ble_eq_true rfl) dX5_isRight_1 ?_
  refine E_if_eq (tgt := 50) rfl dX5_isRight_4 (fun c3 => ?_) (fun c3 => ?_)
  · have hF := ite_t hF c3
    refine E_iconst (v := (0 : Int32)) rfl dX5_isRight_50 ?_
    exact E_zret (ty := .boolean) (Or.inl rfl) rfl rfl (by cases hF; exact hr) dX5_isRight_51
  · have hF := ite_f hF c3
    refine E_aload_n (j := 0) (i := 0) (q := 0) rfl rfl dX5_isRight_7 ?_
    obtain ⟨r4, h5, hF⟩ := bd_inv hF
    have h5 := ldO_inv h5
    refine gf_RX5_12 rfl hv0 (shape_ord hv0).1 h5.1 dX5_isRight_8 ?_
    refine E_aload_n (j := 0) (i := 0) (q := 0) rfl rfl dX5_isRight_11 ?_
    obtain ⟨r6, h7, hF⟩ := bd_inv hF
    have h7 := ldO_inv h7
    refine gf_RX5_21 rfl hv0 (shape_ord hv0).1 h7.1 dX5_isRight_12 ?_
    refine E_aload_n (j := 0) (i := 0) (q := 0) rfl rfl dX5_isRight_15 ?_
    obtain ⟨r8, h9, hF⟩ := bd_inv hF
    have h9 := ldA_inv h9
    refine gf_RX5_52 rfl hv0 (shape_ord hv0).1 h9.1 dX5_isRight_16 ?_
    refine E_aload_n (j := 0) (i := 0) (q := 0) rfl rfl dX5_isRight_19 ?_
    obtain ⟨r10, h11, hF⟩ := bd_inv hF
    have h11 := ldA_inv h11
    refine gf_RX5_36 rfl hv0 (shape_ord hv0).1 h11.1 dX5_isRight_20 ?_
    refine E_iconst (v := (0 : Int32)) rfl dX5_isRight_23 ?_
    obtain ⟨h12, hF⟩ := gd_inv hF
    refine E_iald _ h11.2 (shape_ord h11.2).1 h12 dX5_isRight_24 ?_
    obtain ⟨h13, hF⟩ := gd_inv hF
    refine E_lald _ h9.2 (shape_ord h9.2).1 h13 dX5_isRight_25 ?_
    obtain ⟨q14, h15, hF⟩ := bd_inv hF
    refine E_callV (na := 2) (As := [.ref r6, .long (gL q1.2 r8.1 (gI q1.2 r10.1 (0 : Int32).toNatClampNeg).toNatClampNeg)]) (S := []) (kc := 0) (ks := 0) (ci := 3) rfl rfl h5.2 (shape_ord h5.2).1 cwV_RX5_157 ⟨Nat.le_of_ble_eq_true rfl, Nat.le_of_ble_eq_true rfl⟩ (T_X1_isTooShort hfl fl _ _ _ _ h5.2 h7.2 _ h15) rfl rfl rfl (Nat.le_of_ble_eq_true rfl) dX5_isRight_26 ?_
    refine E_if_ne (tgt := 50) rfl dX5_isRight_29 (fun c16 => ?_) (fun c16 => ?_)
    · have hF := ite_f hF c16
      refine E_iconst (v := (0 : Int32)) rfl dX5_isRight_50 ?_
      exact E_zret (ty := .boolean) (Or.inl rfl) rfl rfl (by cases hF; exact hr) dX5_isRight_51
    · have hF := ite_t hF c16
      refine E_aload_n (j := 0) (i := 0) (q := 0) rfl rfl dX5_isRight_32 ?_
      obtain ⟨q17, h18, hF⟩ := bd_inv hF
      refine E_callV (na := 0) (As := []) (S := []) (kc := 0) (ks := 0) (ci := 7) rfl rfl hv0 (shape_ord hv0).1 cwV_RX5_161 ⟨Nat.le_of_ble_eq_true rfl, Nat.le_of_ble_eq_true rfl⟩ (T_X5_hasPower hfl fl _ _ hv0 _ h18) rfl rfl rfl (Nat.le_of_ble_eq_true rfl) dX5_isRight_33 ?_
      refine E_if_eq (tgt := 50) rfl dX5_isRight_36 (fun c19 => ?_) (fun c19 => ?_)
      · have hF := ite_t hF c19
        refine E_iconst (v := (0 : Int32)) rfl dX5_isRight_50 ?_
        exact E_zret (ty := .boolean) (Or.inl rfl) rfl rfl (by cases hF; exact hr) dX5_isRight_51
      · have hF := ite_f hF c19
        refine E_aload_n (j := 0) (i := 0) (q := 0) rfl rfl dX5_isRight_39 ?_
        obtain ⟨q20, h21, hF⟩ := bd_inv hF
        refine E_callV (na := 0) (As := []) (S := []) (kc := 0) (ks := 0) (ci := 7) rfl rfl hv0 (shape_ord hv0).1 cwV_RX5_164 ⟨Nat.le_of_ble_eq_true rfl, Nat.le_of_ble_eq_true rfl⟩ (T_X5_makesGaps hfl fl _ _ hv0 _ h21) rfl rfl rfl (Nat.le_of_ble_eq_true rfl) dX5_isRight_40 ?_
        refine E_if_ne (tgt := 50) rfl dX5_isRight_43 (fun c22 => ?_) (fun c22 => ?_)
        · have hF := ite_f hF c22
          refine E_iconst (v := (0 : Int32)) rfl dX5_isRight_50 ?_
          exact E_zret (ty := .boolean) (Or.inl rfl) rfl rfl (by cases hF; exact hr) dX5_isRight_51
        · have hF := ite_t hF c22
          refine E_iconst (v := (1 : Int32)) rfl dX5_isRight_46 ?_
          refine E_goto (tgt := 51) rfl dX5_isRight_47 ?_
          exact E_zret (ty := .boolean) (Or.inl rfl) rfl rfl (by cases hF; exact hr) dX5_isRight_51
set_option maxHeartbeats 4000000 in
set_option maxRecDepth 100000 in
theorem T_X5_chooseMove_76 {l : Launch} (hfl : l.stackTraces = false) (fl : Nat) {r : Rs} {ρ : (Int32 × Mem)} (hr : r = (.inr (some (.int ρ.1)), NF, ρ.2)) (v0 : Nat) (v1 : Int32) (v2 : Int32) (v3 : Int32) (v4 : Nat) (w0 : Nat) (w1 : Int32) (w2 : Int32) (w3 : Int32) (s : Mem) (hv0 : shape v0 = some (.inl 7)) (hv4 : shape v4 = some (.inl 5)) (hF : B_X5_chooseMove_76 fl v0 v1 v2 v3 v4 w0 w1 w2 w3 s = some ρ) : E l X_X5_chooseMove r false NF s 0 0 76 [(0, .ref v0), (1, .int v1), (2, .int v2), (3, .int v3), (4, .ref v4)] [.int w3, .int w2, .int w1, .ref w0] := by
  unfold B_X5_chooseMove_76 at hF
  refine E_isub dX5_chooseMove_76 ?_
  obtain ⟨N1, h2, hF⟩ := bd_inv hF
  have h2 := aLen_inv h2
  obtain ⟨h3, hF⟩ := gd_inv hF
  refine E_iast _ h2 (shape_ord h2).1 h3 dX5_chooseMove_77 ?_
  obtain ⟨m4, e5, hF⟩ := nx_inv hF
  refine E_mem e5 ?_
  refine E_aload_n (j := 0) (i := 0) (q := 0) rfl rfl dX5_chooseMove_78 ?_
  obtain ⟨r6, h7, hF⟩ := bd_inv hF
  have h7 := ldA_inv h7
  refine gf_RX5_45 rfl hv0 (shape_ord hv0).1 h7.1 dX5_chooseMove_79 ?_
  refine E_iload_n (j := 1) (i := 1) (q := 1) rfl rfl dX5_chooseMove_82 ?_
  obtain ⟨h8, hF⟩ := gd_inv hF
  refine E_iald _ h7.2 (shape_ord h7.2).1 h8 dX5_chooseMove_83 ?_
  refine E_aload_n (j := 0) (i := 0) (q := 0) rfl rfl dX5_chooseMove_84 ?_
  refine gf_RX5_67 rfl hv0 (shape_ord hv0).1 dX5_chooseMove_85 ?_
  refine E_iload_n (j := 1) (i := 1) (q := 1) rfl rfl dX5_chooseMove_88 ?_
  refine E_isub dX5_chooseMove_89 ?_
  refine E_icmp_gt (tgt := 106) rfl dX5_chooseMove_90 (fun c9 => ?_) (fun c9 => ?_)
  · have hF := ite_t hF c9
    refine E_iconst (v := (0 : Int32)) rfl dX5_chooseMove_106 ?_
    exact E_zret (ty := .boolean) (Or.inl rfl) rfl rfl (by cases hF; exact hr) dX5_chooseMove_107
  · have hF := ite_f hF c9
    refine E_aload_n (j := 0) (i := 0) (q := 0) rfl rfl dX5_chooseMove_93 ?_
    obtain ⟨r10, h11, hF⟩ := bd_inv hF
    have h11 := ldO_inv h11
    refine gf_RX5_12 rfl hv0 (shape_ord hv0).1 h11.1 dX5_chooseMove_94 ?_
    refine E_aload (q := 4) rfl dX5_chooseMove_97 ?_
    refine E_iload_n (j := 3) (i := 3) (q := 3) rfl rfl dX5_chooseMove_99 ?_
    obtain ⟨q12, h13, hF⟩ := bd_inv hF
    refine E_callV (na := 2) (As := [.ref v4, .int v3]) (S := []) (kc := 0) (ks := 0) (ci := 3) rfl rfl h11.2 (shape_ord h11.2).1 cwV_RX5_130 ⟨Nat.le_of_ble_eq_true rfl, Nat.le_of_ble_eq_true rfl⟩ (T_X1_hasFit hfl fl _ _ _ _ h11.2 hv4 _ h13) rfl rfl rfl (Nat.le_of_ble_eq_true rfl) dX5_chooseMove_100 ?_
    refine E_if_ne (tgt := 108) rfl dX5_chooseMove_103 (fun c14 => ?_) (fun c14 => ?_)
    · have hF := ite_f hF c14
      refine E_aload_n (j := 0) (i := 0) (q := 0) rfl rfl dX5_chooseMove_108 ?_
      obtain ⟨r15, h16, hF⟩ := bd_inv hF
      have h16 := ldA_inv h16
      refine gf_RX5_25 rfl hv0 (shape_ord hv0).1 h16.1 dX5_chooseMove_109 ?_
      refine E_iload_n (j := 1) (i := 1) (q := 1) rfl rfl dX5_chooseMove_112 ?_
      refine E_aload (q := 4) rfl dX5_chooseMove_113 ?_
      obtain ⟨h17, hF⟩ := gd_inv hF
      refine E_aast (ci := 5) _ rfl (Or.inr (Or.inl ⟨rfl, rfl⟩)) h16.2 (shape_ord h16.2).1 hv4 (shape_ord hv4).1 h17 dX5_chooseMove_115 ?_
      obtain ⟨m18, e19, hF⟩ := nx_inv hF
      refine E_mem e19 ?_
      refine E_aload_n (j := 0) (i := 0) (q := 0) rfl rfl dX5_chooseMove_116 ?_
      obtain ⟨r20, h21, hF⟩ := bd_inv hF
      have h21 := ldA_inv h21
      refine gf_RX5_29 rfl hv0 (shape_ord hv0).1 h21.1 dX5_chooseMove_117 ?_
      refine E_iload_n (j := 1) (i := 1) (q := 1) rfl rfl dX5_chooseMove_120 ?_
      refine E_iload_n (j := 2) (i := 2) (q := 2) rfl rfl dX5_chooseMove_121 ?_
      obtain ⟨h22, hF⟩ := gd_inv hF
      refine E_iast _ h21.2 (shape_ord h21.2).1 h22 dX5_chooseMove_122 ?_
      obtain ⟨m23, e24, hF⟩ := nx_inv hF
      refine E_mem e24 ?_
      refine E_aload_n (j := 0) (i := 0) (q := 0) rfl rfl dX5_chooseMove_123 ?_
      obtain ⟨r25, h26, hF⟩ := bd_inv hF
      have h26 := ldA_inv h26
      refine gf_RX5_33 rfl hv0 (shape_ord hv0).1 h26.1 dX5_chooseMove_124 ?_
      refine E_iload_n (j := 1) (i := 1) (q := 1) rfl rfl dX5_chooseMove_127 ?_
      refine E_aload (q := 4) rfl dX5_chooseMove_128 ?_
      refine gf_RX5_82 rfl hv4 (shape_ord hv4).1 dX5_chooseMove_130 ?_
      obtain ⟨h27, hF⟩ := gd_inv hF
      refine E_iast _ h26.2 (shape_ord h26.2).1 h27 dX5_chooseMove_133 ?_
      obtain ⟨m28, e29, hF⟩ := nx_inv hF
      refine E_mem e29 ?_
      refine E_aload_n (j := 0) (i := 0) (q := 0) rfl rfl dX5_chooseMove_134 ?_
      obtain ⟨r30, h31, hF⟩ := bd_inv hF
      have h31 := ldA_inv h31
      refine gf_RX5_36 rfl hv0 (shape_ord hv0).1 h31.1 dX5_chooseMove_135 ?_
      refine E_iload_n (j := 1) (i := 1) (q := 1) rfl rfl dX5_chooseMove_138 ?_
      refine E_iload_n (j := 3) (i := 3) (q := 3) rfl rfl dX5_chooseMove_139 ?_
      obtain ⟨h32, hF⟩ := gd_inv hF
      refine E_iast _ h31.2 (shape_ord h31.2).1 h32 dX5_chooseMove_140 ?_
      obtain ⟨m33, e34, hF⟩ := nx_inv hF
      refine E_mem e34 ?_
      refine E_aload_n (j := 0) (i := 0) (q := 0) rfl rfl dX5_chooseMove_141 ?_
      obtain ⟨r35, h36, hF⟩ := bd_inv hF
      have h36 := ldA_inv h36
      refine gf_RX5_39 rfl hv0 (shape_ord hv0).1 h36.1 dX5_chooseMove_142 ?_
      refine E_iload_n (j := 1) (i := 1) (q := 1) rfl rfl dX5_chooseMove_145 ?_
      refine E_aload_n (j := 0) (i := 0) (q := 0) rfl rfl dX5_chooseMove_146 ?_
      obtain ⟨r37, h38, hF⟩ := bd_inv hF
      have h38 := ldO_inv h38
      refine gf_RX5_12 rfl hv0 (shape_ord hv0).1 h38.1 dX5_chooseMove_147 ?_
      refine E_aload (q := 4) rfl dX5_chooseMove_150 ?_
      refine gf_RX5_82 rfl hv4 (shape_ord hv4).1 dX5_chooseMove_152 ?_
      obtain ⟨q39, h40, hF⟩ := bd_inv hF
      refine E_callV (na := 1) (As := [.int (gI m33 v4 7)]) (S := [.int v1, .ref r35.1]) (kc := 0) (ks := 0) (ci := 3) rfl rfl h38.2 (shape_ord h38.2).1 cwV_RX5_99 ⟨Nat.le_of_ble_eq_true rfl, Nat.le_of_ble_eq_true rfl⟩ (T_X1_circuitOf hfl fl _ _ _ h38.2 _ h40) rfl rfl rfl (Nat.le_of_ble_eq_true rfl) dX5_chooseMove_155 ?_
      obtain ⟨h41, hF⟩ := gd_inv hF
      refine E_iast _ h36.2 (shape_ord h36.2).1 h41 dX5_chooseMove_158 ?_
      obtain ⟨m42, e43, hF⟩ := nx_inv hF
      refine E_mem e43 ?_
      refine E_aload_n (j := 0) (i := 0) (q := 0) rfl rfl dX5_chooseMove_159 ?_
      obtain ⟨r44, h45, hF⟩ := bd_inv hF
      have h45 := ldA_inv h45
      refine gf_RX5_42 rfl hv0 (shape_ord hv0).1 h45.1 dX5_chooseMove_160 ?_
      refine E_iload_n (j := 1) (i := 1) (q := 1) rfl rfl dX5_chooseMove_163 ?_
      refine E_aload_n (j := 0) (i := 0) (q := 0) rfl rfl dX5_chooseMove_164 ?_
      obtain ⟨r46, h47, hF⟩ := bd_inv hF
      have h47 := ldO_inv h47
      refine gf_RX5_12 rfl hv0 (shape_ord hv0).1 h47.1 dX5_chooseMove_165 ?_
      refine E_iload_n (j := 3) (i := 3) (q := 3) rfl rfl dX5_chooseMove_168 ?_
      obtain ⟨q48, h49, hF⟩ := bd_inv hF
      refine E_callV (na := 1) (As := [.int v3]) (S := [.int v1, .ref r44.1]) (kc := 0) (ks := 0) (ci := 3) rfl rfl h47.2 (shape_ord h47.2).1 cwV_RX5_99 ⟨Nat.le_of_ble_eq_true rfl, Nat.le_of_ble_eq_true rfl⟩ (T_X1_circuitOf hfl fl _ _ _ h47.2 _ h49) rfl rfl rfl (Nat.le_of_ble_eq_true rfl) dX5_chooseMove_169 ?_
      obtain ⟨h50, hF⟩ := gd_inv hF
      refine E_iast _ h45.2 (shape_ord h45.2).1 h50 dX5_chooseMove_172 ?_
      obtain ⟨m51, e52, hF⟩ := nx_inv hF
      refine E_mem e52 ?_
      refine E_iconst (v := (1 : Int32)) rfl dX5_chooseMove_173 ?_
      exact E_zret (ty := .boolean) (Or.inl rfl) rfl rfl (by cases hF; exact hr) dX5_chooseMove_174
    · have hF := ite_t hF c14
      refine E_iconst (v := (0 : Int32)) rfl dX5_chooseMove_106 ?_
      exact E_zret (ty := .boolean) (Or.inl rfl) rfl rfl (by cases hF; exact hr) dX5_chooseMove_107
set_option maxHeartbeats 4000000 in
set_option maxRecDepth 100000 in
theorem T_X5_chooseMove {l : Launch} (hfl : l.stackTraces = false) (fl : Nat) (v0 : Nat) (v1 : Int32) (v2 : Int32) (v3 : Int32) (s : Mem) (hv0 : shape v0 = some (.inl 7)) (ρ : (Int32 × Mem)) (hF : F_X5_chooseMove fl v0 v1 v2 v3 s = some ρ) : MetN l X_X5_chooseMove false NF s [.ref v0, .int v1, .int v2, .int v3] (.inr (some (.int ρ.1)), NF, ρ.2) := by
  unfold F_X5_chooseMove at hF
  obtain ⟨r, hr⟩ : ∃ r : Rs, r = (.inr (some (.int ρ.1)), NF, ρ.2) := ⟨_, rfl⟩
  rw [← hr]
  refine met_of_E rfl rfl (by decide +kernel) hfl rfl (Nat.le_of_ble_eq_true rfl) ?_
  show E l X_X5_chooseMove r false NF s 0 0 0 [(0, .ref v0), (1, .int v1), (2, .int v2), (3, .int v3)] []
  refine E_aload_n (j := 0) (i := 0) (q := 0) rfl rfl dX5_chooseMove_0 ?_
  obtain ⟨r53, h54, hF⟩ := bd_inv hF
  have h54 := ldO_inv h54
  refine gf_RX5_12 rfl hv0 (shape_ord hv0).1 h54.1 dX5_chooseMove_1 ?_
  obtain ⟨r55, h56, hF⟩ := bd_inv hF
  have h56 := ldA_inv h56
  refine gf_RX5_96 rfl h54.2 (shape_ord h54.2).1 h56.1 dX5_chooseMove_4 ?_
  refine E_iload_n (j := 2) (i := 2) (q := 2) rfl rfl dX5_chooseMove_7 ?_
  obtain ⟨h57, hF⟩ := gd_inv hF
  obtain ⟨r58, h59, hF⟩ := bd_inv hF
  have h59 := ldO_inv h59
  refine E_aald _ ⟨Nat.le_of_ble_eq_true rfl, Nat.le_of_ble_eq_true rfl⟩ h56.2 (shape_ord h56.2).1 h57 h59.1 dX5_chooseMove_8 ?_
  refine E_astore (L' := [(4, .ref r58), (0, .ref v0), (1, .int v1), (2, .int v2), (3, .int v3)]) (Nat.le_of_ble_eq_true rfl) rfl dX5_chooseMove_9 ?_
  refine E_aload_n (j := 0) (i := 0) (q := 1) rfl rfl dX5_chooseMove_11 ?_
  obtain ⟨r60, h61, hF⟩ := bd_inv hF
  have h61 := ldO_inv h61
  refine gf_RX5_12 rfl hv0 (shape_ord hv0).1 h61.1 dX5_chooseMove_12 ?_
  refine E_aload (q := 0) rfl dX5_chooseMove_15 ?_
  obtain ⟨q62, h63, hF⟩ := bd_inv hF
  refine E_callV (na := 1) (As := [.ref r58]) (S := []) (kc := 0) (ks := 0) (ci := 3) rfl rfl h61.2 (shape_ord h61.2).1 cwV_RX5_148 ⟨Nat.le_of_ble_eq_true rfl, Nat.le_of_ble_eq_true rfl⟩ (T_X1_isStillToCome hfl fl _ _ _ h61.2 h59.2 _ h63) rfl rfl rfl (Nat.le_of_ble_eq_true rfl) dX5_chooseMove_17 ?_
  refine E_if_eq (tgt := 47) rfl dX5_chooseMove_20 (fun c64 => ?_) (fun c64 => ?_)
  · have hF := ite_t hF c64
    refine E_iconst (v := (0 : Int32)) rfl dX5_chooseMove_47 ?_
    exact E_zret (ty := .boolean) (Or.inl rfl) rfl rfl (by cases hF; exact hr) dX5_chooseMove_48
  · have hF := ite_f hF c64
    refine E_aload_n (j := 0) (i := 0) (q := 1) rfl rfl dX5_chooseMove_23 ?_
    obtain ⟨r65, h66, hF⟩ := bd_inv hF
    have h66 := ldO_inv h66
    refine gf_RX5_12 rfl hv0 (shape_ord hv0).1 h66.1 dX5_chooseMove_24 ?_
    refine E_aload (q := 0) rfl dX5_chooseMove_27 ?_
    refine gf_RX5_82 rfl h59.2 (shape_ord h59.2).1 dX5_chooseMove_29 ?_
    obtain ⟨q67, h68, hF⟩ := bd_inv hF
    refine E_callV (na := 1) (As := [.int (gI s r58 7)]) (S := []) (kc := 0) (ks := 0) (ci := 3) rfl rfl h66.2 (shape_ord h66.2).1 cwV_RX5_151 ⟨Nat.le_of_ble_eq_true rfl, Nat.le_of_ble_eq_true rfl⟩ (T_X1_hasPitch hfl fl _ _ _ h66.2 _ h68) rfl rfl rfl (Nat.le_of_ble_eq_true rfl) dX5_chooseMove_32 ?_
    refine E_if_eq (tgt := 47) rfl dX5_chooseMove_35 (fun c69 => ?_) (fun c69 => ?_)
    · have hF := ite_t hF c69
      refine E_iconst (v := (0 : Int32)) rfl dX5_chooseMove_47 ?_
      exact E_zret (ty := .boolean) (Or.inl rfl) rfl rfl (by cases hF; exact hr) dX5_chooseMove_48
    · have hF := ite_f hF c69
      refine E_aload (q := 0) rfl dX5_chooseMove_38 ?_
      refine gf_RX5_82 rfl h59.2 (shape_ord h59.2).1 dX5_chooseMove_40 ?_
      refine E_iload_n (j := 3) (i := 3) (q := 4) rfl rfl dX5_chooseMove_43 ?_
      refine E_icmp_ne (tgt := 49) rfl dX5_chooseMove_44 (fun c70 => ?_) (fun c70 => ?_)
      · have hF := ite_f hF c70
        refine E_aload_n (j := 0) (i := 0) (q := 1) rfl rfl dX5_chooseMove_49 ?_
        obtain ⟨r71, h72, hF⟩ := bd_inv hF
        have h72 := ldA_inv h72
        refine gf_RX5_45 rfl hv0 (shape_ord hv0).1 h72.1 dX5_chooseMove_50 ?_
        refine E_iload_n (j := 1) (i := 1) (q := 2) rfl rfl dX5_chooseMove_53 ?_
        refine E_aload_n (j := 0) (i := 0) (q := 1) rfl rfl dX5_chooseMove_54 ?_
        obtain ⟨r73, h74, hF⟩ := bd_inv hF
        have h74 := ldA_inv h74
        refine gf_RX5_45 rfl hv0 (shape_ord hv0).1 h74.1 dX5_chooseMove_55 ?_
        refine E_iload_n (j := 1) (i := 1) (q := 2) rfl rfl dX5_chooseMove_58 ?_
        refine E_iconst (v := (1 : Int32)) rfl dX5_chooseMove_59 ?_
        refine E_isub dX5_chooseMove_60 ?_
        obtain ⟨h75, hF⟩ := gd_inv hF
        refine E_iald _ h74.2 (shape_ord h74.2).1 h75 dX5_chooseMove_61 ?_
        refine E_aload_n (j := 0) (i := 0) (q := 1) rfl rfl dX5_chooseMove_62 ?_
        refine E_aload (q := 0) rfl dX5_chooseMove_63 ?_
        obtain ⟨q76, h77, hF⟩ := bd_inv hF
        refine E_callV (na := 1) (As := [.ref r58]) (S := [.int (gI s r73.1 (v1 - (1 : Int32)).toNatClampNeg), .int v1, .ref r71.1]) (kc := 0) (ks := 0) (ci := 7) rfl rfl hv0 (shape_ord hv0).1 cwV_RX5_126 ⟨Nat.le_of_ble_eq_true rfl, Nat.le_of_ble_eq_true rfl⟩ (T_X5_isInTheWay hfl fl _ _ _ hv0 h59.2 _ h77) rfl rfl rfl (Nat.le_of_ble_eq_true rfl) dX5_chooseMove_65 ?_
        refine E_if_eq (tgt := 75) rfl dX5_chooseMove_68 (fun c78 => ?_) (fun c78 => ?_)
        · have hF := ite_t hF c78
          refine E_iconst (v := (0 : Int32)) rfl dX5_chooseMove_75 ?_
          refine E_sub [1, 2, 3, 4, 0] rfl ?_
          exact T_X5_chooseMove_76 hfl fl hr  _ _ _ _ _ _ _ _ _ _ hv0 h59.2 hF
        · have hF := ite_f hF c78
          refine E_iconst (v := (1 : Int32)) rfl dX5_chooseMove_71 ?_
          refine E_goto (tgt := 76) rfl dX5_chooseMove_72 ?_
          refine E_sub [1, 2, 3, 4, 0] rfl ?_
          exact T_X5_chooseMove_76 hfl fl hr  _ _ _ _ _ _ _ _ _ _ hv0 h59.2 hF
      · have hF := ite_t hF c70
        refine E_iconst (v := (0 : Int32)) rfl dX5_chooseMove_47 ?_
        exact E_zret (ty := .boolean) (Or.inl rfl) rfl rfl (by cases hF; exact hr) dX5_chooseMove_48
set_option maxHeartbeats 4000000 in
set_option maxRecDepth 100000 in
theorem T_X5_findMoves_128 {l : Launch} (hfl : l.stackTraces = false) (fl : Nat) {r : Rs} {ρ : (Int32 × Mem)} (hr : r = (.inr (some (.int ρ.1)), NF, ρ.2)) {k25 : Nat → Int32 → Int32 → Mem → Option (Int32 × Mem)} (hk25 : ∀ (v0 : Nat) (v1 : Int32) (v2 : Int32) (s : Mem) (hv0 : shape v0 = some (.inl 7)), k25 v0 v1 v2 s = some ρ → E l X_X5_findMoves r false NF s 0 0 25 [(0, .ref v0), (1, .int v1), (2, .int v2)] []) (v0 : Nat) (v1 : Int32) (v2 : Int32) (s : Mem) (hv0 : shape v0 = some (.inl 7)) (hF : B_X5_findMoves_128 k25 fl v0 v1 v2 s = some ρ) : E l X_X5_findMoves r false NF s 0 0 128 [(0, .ref v0), (1, .int v1), (2, .int v2)] [] := by
  unfold B_X5_findMoves_128 at hF
  refine E_iinc (q := 2) (v := (v2 + (1 : Int32))) (L' := [(2, .int (v2 + (1 : Int32))), (0, .ref v0), (1, .int v1)]) rfl rfl (Nat.le_of_ble_eq_true rfl) rfl dX5_findMoves_128 ?_
  refine E_goto (tgt := 25) rfl dX5_findMoves_131 ?_
  refine E_sub [1, 2, 0] rfl ?_
  exact hk25 _ _ _ _ hv0 hF
set_option maxHeartbeats 4000000 in
set_option maxRecDepth 100000 in
theorem T_X5_findMoves_122 {l : Launch} (hfl : l.stackTraces = false) (fl : Nat) {r : Rs} {ρ : (Int32 × Mem)} (hr : r = (.inr (some (.int ρ.1)), NF, ρ.2)) {k25 : Nat → Int32 → Int32 → Mem → Option (Int32 × Mem)} (hk25 : ∀ (v0 : Nat) (v1 : Int32) (v2 : Int32) (s : Mem) (hv0 : shape v0 = some (.inl 7)), k25 v0 v1 v2 s = some ρ → E l X_X5_findMoves r false NF s 0 0 25 [(0, .ref v0), (1, .int v1), (2, .int v2)] []) {k81 : Nat → Int32 → Int32 → Int32 → Mem → Option (Int32 × Mem)} (hk81 : ∀ (v0 : Nat) (v1 : Int32) (v2 : Int32) (v4 : Int32) (s : Mem) (hv0 : shape v0 = some (.inl 7)), k81 v0 v1 v2 v4 s = some ρ → E l X_X5_findMoves r false NF s 0 0 81 [(0, .ref v0), (1, .int v1), (2, .int v2), (4, .int v4)] []) (v0 : Nat) (v1 : Int32) (v2 : Int32) (v4 : Int32) (s : Mem) (hv0 : shape v0 = some (.inl 7)) (hF : B_X5_findMoves_122 k25 k81 fl v0 v1 v2 v4 s = some ρ) : E l X_X5_findMoves r false NF s 0 0 122 [(0, .ref v0), (1, .int v1), (2, .int v2), (4, .int v4)] [] := by
  unfold B_X5_findMoves_122 at hF
  refine E_iinc (q := 3) (v := (v4 + (1 : Int32))) (L' := [(4, .int (v4 + (1 : Int32))), (0, .ref v0), (1, .int v1), (2, .int v2)]) rfl rfl (Nat.le_of_ble_eq_true rfl) rfl dX5_findMoves_122 ?_
  refine E_goto (tgt := 81) rfl dX5_findMoves_125 ?_
  refine E_sub [1, 2, 3, 0] rfl ?_
  exact hk81 _ _ _ _ _ hv0 hF
set_option maxHeartbeats 4000000 in
set_option maxRecDepth 100000 in
theorem T_X5_findMoves_81 {l : Launch} (hfl : l.stackTraces = false) (fl : Nat) {r : Rs} {ρ : (Int32 × Mem)} (hr : r = (.inr (some (.int ρ.1)), NF, ρ.2)) {k25 : Nat → Int32 → Int32 → Mem → Option (Int32 × Mem)} (hk25 : ∀ (v0 : Nat) (v1 : Int32) (v2 : Int32) (s : Mem) (hv0 : shape v0 = some (.inl 7)), k25 v0 v1 v2 s = some ρ → E l X_X5_findMoves r false NF s 0 0 25 [(0, .ref v0), (1, .int v1), (2, .int v2)] []) : ∀ (n : Nat) (v0 : Nat) (v1 : Int32) (v2 : Int32) (v4 : Int32) (s : Mem) (hv0 : shape v0 = some (.inl 7)), B_X5_findMoves_81 k25 fl n v0 v1 v2 v4 s = some ρ → E l X_X5_findMoves r false NF s 0 0 81 [(0, .ref v0), (1, .int v1), (2, .int v2), (4, .int v4)] [] := by
  intro n
  induction n with
  | zero =>
    intro v0 v1 v2 v4 s hv0 hF
    cases hF
  | succ n ih =>
    intro v0 v1 v2 v4 s hv0 hF
    refine E_aload_n (j := 0) (i := 0) (q := 0) rfl rfl dX5_findMoves_81 ?_
    refine gf_RX5_67 rfl hv0 (shape_ord hv0).1 dX5_findMoves_82 ?_
    refine E_iconst (v := (2 : Int32)) rfl dX5_findMoves_85 ?_
    refine E_icmp_ne (tgt := 128) rfl dX5_findMoves_86 (fun c1 => ?_) (fun c1 => ?_)
    · have hF := ite_f hF c1
      refine E_sub [0, 1, 2] rfl ?_
      exact T_X5_findMoves_128 hfl fl hr hk25 _ _ _ _ hv0 hF
    · have hF := ite_t hF c1
      refine E_iload (q := 3) rfl dX5_findMoves_89 ?_
      refine E_iload_n (j := 1) (i := 1) (q := 1) rfl rfl dX5_findMoves_91 ?_
      refine E_icmp_ge (tgt := 128) rfl dX5_findMoves_92 (fun c2 => ?_) (fun c2 => ?_)
      · have hF := ite_t hF c2
        refine E_sub [0, 1, 2] rfl ?_
        exact T_X5_findMoves_128 hfl fl hr hk25 _ _ _ _ hv0 hF
      · have hF := ite_f hF c2
        refine E_aload_n (j := 0) (i := 0) (q := 0) rfl rfl dX5_findMoves_95 ?_
        refine E_iconst (v := (2 : Int32)) rfl dX5_findMoves_96 ?_
        refine E_iload (q := 3) rfl dX5_findMoves_97 ?_
        refine E_bipush (v := (6 : Int32)) rfl dX5_findMoves_99 ?_
        refine E_idiv (by decide) dX5_findMoves_101 ?_
        refine E_iload (q := 3) rfl dX5_findMoves_102 ?_
        refine E_bipush (v := (6 : Int32)) rfl dX5_findMoves_104 ?_
        refine E_irem (by decide) dX5_findMoves_106 ?_
        obtain ⟨q3, h4, hF⟩ := bd_inv hF
        refine E_callV (na := 3) (As := [.int (2 : Int32), .int (v4 / (6 : Int32)), .int (v4 - v4 / (6 : Int32) * (6 : Int32))]) (S := []) (kc := 0) (ks := 0) (ci := 7) rfl rfl hv0 (shape_ord hv0).1 cwV_RX5_144 ⟨Nat.le_of_ble_eq_true rfl, Nat.le_of_ble_eq_true rfl⟩ (T_X5_chooseMove hfl fl _ _ _ _ _ hv0 _ h4) rfl rfl rfl (Nat.le_of_ble_eq_true rfl) dX5_findMoves_107 ?_
        refine E_if_eq (tgt := 122) rfl dX5_findMoves_110 (fun c5 => ?_) (fun c5 => ?_)
        · have hF := ite_t hF c5
          refine E_sub [0, 1, 2, 3] rfl ?_
          exact T_X5_findMoves_122 hfl fl hr hk25 ih _ _ _ _ _ hv0 hF
        · have hF := ite_f hF c5
          refine E_aload_n (j := 0) (i := 0) (q := 0) rfl rfl dX5_findMoves_113 ?_
          obtain ⟨q6, h7, hF⟩ := bd_inv hF
          refine E_callV (na := 0) (As := []) (S := []) (kc := 0) (ks := 0) (ci := 7) rfl rfl hv0 (shape_ord hv0).1 cwV_RX5_141 ⟨Nat.le_of_ble_eq_true rfl, Nat.le_of_ble_eq_true rfl⟩ (T_X5_isRight hfl fl _ _ hv0 _ h7) rfl rfl rfl (Nat.le_of_ble_eq_true rfl) dX5_findMoves_114 ?_
          refine E_if_eq (tgt := 122) rfl dX5_findMoves_117 (fun c8 => ?_) (fun c8 => ?_)
          · have hF := ite_t hF c8
            refine E_sub [0, 1, 2, 3] rfl ?_
            exact T_X5_findMoves_122 hfl fl hr hk25 ih _ _ _ _ _ hv0 hF
          · have hF := ite_f hF c8
            refine E_iconst (v := (1 : Int32)) rfl dX5_findMoves_120 ?_
            exact E_zret (ty := .boolean) (Or.inl rfl) rfl rfl (by cases hF; exact hr) dX5_findMoves_121
set_option maxHeartbeats 4000000 in
set_option maxRecDepth 100000 in
theorem T_X5_findMoves_66 {l : Launch} (hfl : l.stackTraces = false) (fl : Nat) {r : Rs} {ρ : (Int32 × Mem)} (hr : r = (.inr (some (.int ρ.1)), NF, ρ.2)) {k25 : Nat → Int32 → Int32 → Mem → Option (Int32 × Mem)} (hk25 : ∀ (v0 : Nat) (v1 : Int32) (v2 : Int32) (s : Mem) (hv0 : shape v0 = some (.inl 7)), k25 v0 v1 v2 s = some ρ → E l X_X5_findMoves r false NF s 0 0 25 [(0, .ref v0), (1, .int v1), (2, .int v2)] []) (v0 : Nat) (v1 : Int32) (v2 : Int32) (s : Mem) (hv0 : shape v0 = some (.inl 7)) (hF : B_X5_findMoves_66 k25 fl v0 v1 v2 s = some ρ) : E l X_X5_findMoves r false NF s 0 0 66 [(0, .ref v0), (1, .int v1), (2, .int v2)] [] := by
  unfold B_X5_findMoves_66 at hF
  refine E_aload_n (j := 0) (i := 0) (q := 0) rfl rfl dX5_findMoves_66 ?_
  obtain ⟨r9, h10, hF⟩ := bd_inv hF
  have h10 := ldA_inv h10
  refine gf_RX5_29 rfl hv0 (shape_ord hv0).1 h10.1 dX5_findMoves_67 ?_
  refine E_iconst (v := (1 : Int32)) rfl dX5_findMoves_70 ?_
  obtain ⟨h11, hF⟩ := gd_inv hF
  refine E_iald _ h10.2 (shape_ord h10.2).1 h11 dX5_findMoves_71 ?_
  refine E_iconst (v := (1 : Int32)) rfl dX5_findMoves_72 ?_
  refine E_iadd dX5_findMoves_73 ?_
  refine E_bipush (v := (6 : Int32)) rfl dX5_findMoves_74 ?_
  refine E_imul dX5_findMoves_76 ?_
  refine E_istore_n (j := 3) (i := 3) (L' := [(3, .int (((gI s r9.1 (1 : Int32).toNatClampNeg) + (1 : Int32)) * (6 : Int32))), (0, .ref v0), (1, .int v1), (2, .int v2)]) rfl (Nat.le_of_ble_eq_true rfl) rfl dX5_findMoves_77 ?_
  refine E_iload_n (j := 3) (i := 3) (q := 0) rfl rfl dX5_findMoves_78 ?_
  refine E_istore (L' := [(4, .int (((gI s r9.1 (1 : Int32).toNatClampNeg) + (1 : Int32)) * (6 : Int32))), (3, .int (((gI s r9.1 (1 : Int32).toNatClampNeg) + (1 : Int32)) * (6 : Int32))), (0, .ref v0), (1, .int v1), (2, .int v2)]) (Nat.le_of_ble_eq_true rfl) rfl dX5_findMoves_79 ?_
  refine E_sub [2, 3, 4, 0] rfl ?_
  exact T_X5_findMoves_81 hfl fl hr hk25 fl _ _ _ _ _ hv0 hF
set_option maxHeartbeats 4000000 in
set_option maxRecDepth 100000 in
theorem T_X5_findMoves_25 {l : Launch} (hfl : l.stackTraces = false) (fl : Nat) {r : Rs} {ρ : (Int32 × Mem)} (hr : r = (.inr (some (.int ρ.1)), NF, ρ.2)) : ∀ (n : Nat) (v0 : Nat) (v1 : Int32) (v2 : Int32) (s : Mem) (hv0 : shape v0 = some (.inl 7)), B_X5_findMoves_25 fl n v0 v1 v2 s = some ρ → E l X_X5_findMoves r false NF s 0 0 25 [(0, .ref v0), (1, .int v1), (2, .int v2)] [] := by
  intro n
  induction n with
  | zero =>
    intro v0 v1 v2 s hv0 hF
    cases hF
  | succ n ih =>
    intro v0 v1 v2 s hv0 hF
    refine E_iload_n (j := 2) (i := 2) (q := 2) rfl rfl dX5_findMoves_25 ?_
    refine E_iload_n (j := 1) (i := 1) (q := 1) rfl rfl dX5_findMoves_26 ?_
    refine E_icmp_ge (tgt := 134) rfl dX5_findMoves_27 (fun c12 => ?_) (fun c12 => ?_)
    · have hF := ite_t hF c12
      refine E_iconst (v := (0 : Int32)) rfl dX5_findMoves_134 ?_
      exact E_zret (ty := .boolean) (Or.inl rfl) rfl rfl (by cases hF; exact hr) dX5_findMoves_135
    · have hF := ite_f hF c12
      refine E_aload_n (j := 0) (i := 0) (q := 0) rfl rfl dX5_findMoves_30 ?_
      refine E_iconst (v := (1 : Int32)) rfl dX5_findMoves_31 ?_
      refine E_iload_n (j := 2) (i := 2) (q := 2) rfl rfl dX5_findMoves_32 ?_
      refine E_bipush (v := (6 : Int32)) rfl dX5_findMoves_33 ?_
      refine E_idiv (by decide) dX5_findMoves_35 ?_
      refine E_iload_n (j := 2) (i := 2) (q := 2) rfl rfl dX5_findMoves_36 ?_
      refine E_bipush (v := (6 : Int32)) rfl dX5_findMoves_37 ?_
      refine E_irem (by decide) dX5_findMoves_39 ?_
      obtain ⟨q13, h14, hF⟩ := bd_inv hF
      refine E_callV (na := 3) (As := [.int (1 : Int32), .int (v2 / (6 : Int32)), .int (v2 - v2 / (6 : Int32) * (6 : Int32))]) (S := []) (kc := 0) (ks := 0) (ci := 7) rfl rfl hv0 (shape_ord hv0).1 cwV_RX5_144 ⟨Nat.le_of_ble_eq_true rfl, Nat.le_of_ble_eq_true rfl⟩ (T_X5_chooseMove hfl fl _ _ _ _ _ hv0 _ h14) rfl rfl rfl (Nat.le_of_ble_eq_true rfl) dX5_findMoves_40 ?_
      refine E_if_ne (tgt := 49) rfl dX5_findMoves_43 (fun c15 => ?_) (fun c15 => ?_)
      · have hF := ite_f hF c15
        refine E_aload_n (j := 0) (i := 0) (q := 0) rfl rfl dX5_findMoves_49 ?_
        refine gf_RX5_67 rfl hv0 (shape_ord hv0).1 dX5_findMoves_50 ?_
        refine E_iconst (v := (1 : Int32)) rfl dX5_findMoves_53 ?_
        refine E_icmp_ne (tgt := 66) rfl dX5_findMoves_54 (fun c16 => ?_) (fun c16 => ?_)
        · have hF := ite_f hF c16
          refine E_sub [0, 1, 2] rfl ?_
          exact T_X5_findMoves_66 hfl fl hr ih _ _ _ _ hv0 hF
        · have hF := ite_t hF c16
          refine E_aload_n (j := 0) (i := 0) (q := 0) rfl rfl dX5_findMoves_57 ?_
          obtain ⟨q17, h18, hF⟩ := bd_inv hF
          refine E_callV (na := 0) (As := []) (S := []) (kc := 0) (ks := 0) (ci := 7) rfl rfl hv0 (shape_ord hv0).1 cwV_RX5_141 ⟨Nat.le_of_ble_eq_true rfl, Nat.le_of_ble_eq_true rfl⟩ (T_X5_isRight hfl fl _ _ hv0 _ h18) rfl rfl rfl (Nat.le_of_ble_eq_true rfl) dX5_findMoves_58 ?_
          refine E_if_eq (tgt := 66) rfl dX5_findMoves_61 (fun c19 => ?_) (fun c19 => ?_)
          · have hF := ite_t hF c19
            refine E_sub [0, 1, 2] rfl ?_
            exact T_X5_findMoves_66 hfl fl hr ih _ _ _ _ hv0 hF
          · have hF := ite_f hF c19
            refine E_iconst (v := (1 : Int32)) rfl dX5_findMoves_64 ?_
            exact E_zret (ty := .boolean) (Or.inl rfl) rfl rfl (by cases hF; exact hr) dX5_findMoves_65
      · have hF := ite_t hF c15
        refine E_goto (tgt := 128) rfl dX5_findMoves_46 ?_
        refine E_sub [0, 1, 2] rfl ?_
        exact T_X5_findMoves_128 hfl fl hr ih _ _ _ _ hv0 hF
set_option maxHeartbeats 4000000 in
set_option maxRecDepth 100000 in
theorem T_X5_findMoves {l : Launch} (hfl : l.stackTraces = false) (fl : Nat) (v0 : Nat) (s : Mem) (hv0 : shape v0 = some (.inl 7)) (ρ : (Int32 × Mem)) (hF : F_X5_findMoves fl v0 s = some ρ) : MetN l X_X5_findMoves false NF s [.ref v0] (.inr (some (.int ρ.1)), NF, ρ.2) := by
  unfold F_X5_findMoves at hF
  obtain ⟨r, hr⟩ : ∃ r : Rs, r = (.inr (some (.int ρ.1)), NF, ρ.2) := ⟨_, rfl⟩
  rw [← hr]
  refine met_of_E rfl rfl (by decide +kernel) hfl rfl (Nat.le_of_ble_eq_true rfl) ?_
  show E l X_X5_findMoves r false NF s 0 0 0 [(0, .ref v0)] []
  refine E_aload_n (j := 0) (i := 0) (q := 0) rfl rfl dX5_findMoves_0 ?_
  refine gf_RX5_67 rfl hv0 (shape_ord hv0).1 dX5_findMoves_1 ?_
  refine E_if_ne (tgt := 12) rfl dX5_findMoves_4 (fun c20 => ?_) (fun c20 => ?_)
  · have hF := ite_f hF c20
    refine E_aload_n (j := 0) (i := 0) (q := 0) rfl rfl dX5_findMoves_12 ?_
    obtain ⟨r21, h22, hF⟩ := bd_inv hF
    have h22 := ldO_inv h22
    refine gf_RX5_12 rfl hv0 (shape_ord hv0).1 h22.1 dX5_findMoves_13 ?_
    refine gf_RX5_93 rfl h22.2 (shape_ord h22.2).1 dX5_findMoves_16 ?_
    refine E_bipush (v := (6 : Int32)) rfl dX5_findMoves_19 ?_
    refine E_imul dX5_findMoves_21 ?_
    refine E_istore_n (j := 1) (i := 1) (L' := [(1, .int ((gI s r21 3) * (6 : Int32))), (0, .ref v0)]) rfl (Nat.le_of_ble_eq_true rfl) rfl dX5_findMoves_22 ?_
    refine E_iconst (v := (0 : Int32)) rfl dX5_findMoves_23 ?_
    refine E_istore_n (j := 2) (i := 2) (L' := [(2, .int (0 : Int32)), (1, .int ((gI s r21 3) * (6 : Int32))), (0, .ref v0)]) rfl (Nat.le_of_ble_eq_true rfl) rfl dX5_findMoves_24 ?_
    refine E_sub [2, 1, 0] rfl ?_
    exact T_X5_findMoves_25 hfl fl hr  fl _ _ _ _ hv0 hF
  · have hF := ite_t hF c20
    refine E_aload_n (j := 0) (i := 0) (q := 0) rfl rfl dX5_findMoves_7 ?_
    obtain ⟨q23, h24, hF⟩ := bd_inv hF
    refine E_callV (na := 0) (As := []) (S := []) (kc := 0) (ks := 0) (ci := 7) rfl rfl hv0 (shape_ord hv0).1 cwV_RX5_141 ⟨Nat.le_of_ble_eq_true rfl, Nat.le_of_ble_eq_true rfl⟩ (T_X5_isRight hfl fl _ _ hv0 _ h24) rfl rfl rfl (Nat.le_of_ble_eq_true rfl) dX5_findMoves_8 ?_
    obtain ⟨h25, hF⟩ := gd_inv hF
    exact E_zret (ty := .boolean) (Or.inl rfl) rfl (nar_b h25) (by cases hF; exact hr) dX5_findMoves_11
set_option maxHeartbeats 4000000 in
set_option maxRecDepth 100000 in
theorem T_X5_findBestPlan_55 {l : Launch} (hfl : l.stackTraces = false) (fl : Nat) {r : Rs} {ρ : (Int32 × Mem)} (hr : r = (.inr (some (.int ρ.1)), NF, ρ.2)) {k10 : Nat → Int32 → Mem → Option (Int32 × Mem)} (hk10 : ∀ (v0 : Nat) (v1 : Int32) (s : Mem) (hv0 : shape v0 = some (.inl 7)), k10 v0 v1 s = some ρ → E l X_X5_findBestPlan r false NF s 0 0 10 [(0, .ref v0), (1, .int v1)] []) {k22 : Nat → Int32 → Int32 → Mem → Option (Int32 × Mem)} (hk22 : ∀ (v0 : Nat) (v1 : Int32) (v2 : Int32) (s : Mem) (hv0 : shape v0 = some (.inl 7)), k22 v0 v1 v2 s = some ρ → E l X_X5_findBestPlan r false NF s 0 0 22 [(0, .ref v0), (1, .int v1), (2, .int v2)] []) (v0 : Nat) (v1 : Int32) (v2 : Int32) (s : Mem) (hv0 : shape v0 = some (.inl 7)) (hF : B_X5_findBestPlan_55 k10 k22 fl v0 v1 v2 s = some ρ) : E l X_X5_findBestPlan r false NF s 0 0 55 [(0, .ref v0), (1, .int v1), (2, .int v2)] [] := by
  unfold B_X5_findBestPlan_55 at hF
  refine E_iinc (q := 2) (v := (v2 + (1 : Int32))) (L' := [(2, .int (v2 + (1 : Int32))), (0, .ref v0), (1, .int v1)]) rfl rfl (Nat.le_of_ble_eq_true rfl) rfl dX5_findBestPlan_55 ?_
  refine E_goto (tgt := 22) rfl dX5_findBestPlan_58 ?_
  refine E_sub [1, 2, 0] rfl ?_
  exact hk22 _ _ _ _ hv0 hF
set_option maxHeartbeats 4000000 in
set_option maxRecDepth 100000 in
theorem T_X5_findBestPlan_22 {l : Launch} (hfl : l.stackTraces = false) (fl : Nat) {r : Rs} {ρ : (Int32 × Mem)} (hr : r = (.inr (some (.int ρ.1)), NF, ρ.2)) {k10 : Nat → Int32 → Mem → Option (Int32 × Mem)} (hk10 : ∀ (v0 : Nat) (v1 : Int32) (s : Mem) (hv0 : shape v0 = some (.inl 7)), k10 v0 v1 s = some ρ → E l X_X5_findBestPlan r false NF s 0 0 10 [(0, .ref v0), (1, .int v1)] []) : ∀ (n : Nat) (v0 : Nat) (v1 : Int32) (v2 : Int32) (s : Mem) (hv0 : shape v0 = some (.inl 7)), B_X5_findBestPlan_22 k10 fl n v0 v1 v2 s = some ρ → E l X_X5_findBestPlan r false NF s 0 0 22 [(0, .ref v0), (1, .int v1), (2, .int v2)] [] := by
  intro n
  induction n with
  | zero =>
    intro v0 v1 v2 s hv0 hF
    cases hF
  | succ n ih =>
    intro v0 v1 v2 s hv0 hF
    refine E_iload_n (j := 2) (i := 2) (q := 2) rfl rfl dX5_findBestPlan_22 ?_
    refine E_aload_n (j := 0) (i := 0) (q := 0) rfl rfl dX5_findBestPlan_23 ?_
    obtain ⟨r1, h2, hF⟩ := bd_inv hF
    have h2 := ldO_inv h2
    refine gf_RX5_12 rfl hv0 (shape_ord hv0).1 h2.1 dX5_findBestPlan_24 ?_
    refine gf_RX5_71 rfl h2.2 (shape_ord h2.2).1 dX5_findBestPlan_27 ?_
    refine E_icmp_ge (tgt := 61) rfl dX5_findBestPlan_30 (fun c3 => ?_) (fun c3 => ?_)
    · have hF := ite_t hF c3
      refine E_iinc (q := 1) (v := (v1 + (1 : Int32))) (L' := [(1, .int (v1 + (1 : Int32))), (0, .ref v0), (2, .int v2)]) rfl rfl (Nat.le_of_ble_eq_true rfl) rfl dX5_findBestPlan_61 ?_
      refine E_goto (tgt := 10) rfl dX5_findBestPlan_64 ?_
      refine E_sub [1, 0] rfl ?_
      exact hk10 _ _ _ hv0 hF
    · have hF := ite_f hF c3
      refine E_aload_n (j := 0) (i := 0) (q := 0) rfl rfl dX5_findBestPlan_33 ?_
      refine E_aload_n (j := 0) (i := 0) (q := 0) rfl rfl dX5_findBestPlan_34 ?_
      obtain ⟨r4, h5, hF⟩ := bd_inv hF
      have h5 := ldA_inv h5
      refine gf_RX5_58 rfl hv0 (shape_ord hv0).1 h5.1 dX5_findBestPlan_35 ?_
      refine E_iload_n (j := 2) (i := 2) (q := 2) rfl rfl dX5_findBestPlan_38 ?_
      obtain ⟨h6, hF⟩ := gd_inv hF
      refine E_iald _ h5.2 (shape_ord h5.2).1 h6 dX5_findBestPlan_39 ?_
      obtain ⟨q7, h8, hF⟩ := bd_inv hF
      refine E_callV (na := 1) (As := [.int (gI s r4.1 v2.toNatClampNeg)]) (S := []) (kc := 0) (ks := 0) (ci := 7) rfl rfl hv0 (shape_ord hv0).1 cwV_RX5_74 ⟨Nat.le_of_ble_eq_true rfl, Nat.le_of_ble_eq_true rfl⟩ (T_X5_chooseGoal hfl fl _ _ _ hv0 _ h8) rfl rfl rfl (Nat.le_of_ble_eq_true rfl) dX5_findBestPlan_40 ?_
      refine E_if_eq (tgt := 55) rfl dX5_findBestPlan_43 (fun c9 => ?_) (fun c9 => ?_)
      · have hF := ite_t hF c9
        refine E_sub [0, 1, 2] rfl ?_
        exact T_X5_findBestPlan_55 hfl fl hr hk10 ih _ _ _ _ hv0 hF
      · have hF := ite_f hF c9
        refine E_aload_n (j := 0) (i := 0) (q := 0) rfl rfl dX5_findBestPlan_46 ?_
        obtain ⟨q10, h11, hF⟩ := bd_inv hF
        refine E_callV (na := 0) (As := []) (S := []) (kc := 0) (ks := 0) (ci := 7) rfl rfl hv0 (shape_ord hv0).1 cwV_RX5_78 ⟨Nat.le_of_ble_eq_true rfl, Nat.le_of_ble_eq_true rfl⟩ (T_X5_findMoves hfl fl _ _ hv0 _ h11) rfl rfl rfl (Nat.le_of_ble_eq_true rfl) dX5_findBestPlan_47 ?_
        refine E_if_eq (tgt := 55) rfl dX5_findBestPlan_50 (fun c12 => ?_) (fun c12 => ?_)
        · have hF := ite_t hF c12
          refine E_sub [0, 1, 2] rfl ?_
          exact T_X5_findBestPlan_55 hfl fl hr hk10 ih _ _ _ _ hv0 hF
        · have hF := ite_f hF c12
          refine E_iconst (v := (1 : Int32)) rfl dX5_findBestPlan_53 ?_
          exact E_zret (ty := .boolean) (Or.inl rfl) rfl rfl (by cases hF; exact hr) dX5_findBestPlan_54
set_option maxHeartbeats 4000000 in
set_option maxRecDepth 100000 in
theorem T_X5_findBestPlan_10 {l : Launch} (hfl : l.stackTraces = false) (fl : Nat) {r : Rs} {ρ : (Int32 × Mem)} (hr : r = (.inr (some (.int ρ.1)), NF, ρ.2)) : ∀ (n : Nat) (v0 : Nat) (v1 : Int32) (s : Mem) (hv0 : shape v0 = some (.inl 7)), B_X5_findBestPlan_10 fl n v0 v1 s = some ρ → E l X_X5_findBestPlan r false NF s 0 0 10 [(0, .ref v0), (1, .int v1)] [] := by
  intro n
  induction n with
  | zero =>
    intro v0 v1 s hv0 hF
    cases hF
  | succ n ih =>
    intro v0 v1 s hv0 hF
    refine E_iload_n (j := 1) (i := 1) (q := 1) rfl rfl dX5_findBestPlan_10 ?_
    refine E_iconst (v := (2 : Int32)) rfl dX5_findBestPlan_11 ?_
    refine E_icmp_gt (tgt := 67) rfl dX5_findBestPlan_12 (fun c13 => ?_) (fun c13 => ?_)
    · have hF := ite_t hF c13
      refine E_iconst (v := (0 : Int32)) rfl dX5_findBestPlan_67 ?_
      exact E_zret (ty := .boolean) (Or.inl rfl) rfl rfl (by cases hF; exact hr) dX5_findBestPlan_68
    · have hF := ite_f hF c13
      refine E_aload_n (j := 0) (i := 0) (q := 0) rfl rfl dX5_findBestPlan_15 ?_
      refine E_iload_n (j := 1) (i := 1) (q := 1) rfl rfl dX5_findBestPlan_16 ?_
      refine pf_RX5_67 rfl hv0 (shape_ord hv0).1 dX5_findBestPlan_17 ?_
      obtain ⟨m14, e15, hF⟩ := nx_inv hF
      refine E_mem e15 ?_
      refine E_iconst (v := (0 : Int32)) rfl dX5_findBestPlan_20 ?_
      refine E_istore_n (j := 2) (i := 2) (L' := [(2, .int (0 : Int32)), (0, .ref v0), (1, .int v1)]) rfl (Nat.le_of_ble_eq_true rfl) rfl dX5_findBestPlan_21 ?_
      refine E_sub [1, 2, 0] rfl ?_
      exact T_X5_findBestPlan_22 hfl fl hr ih fl _ _ _ _ hv0 hF
set_option maxHeartbeats 4000000 in
set_option maxRecDepth 100000 in
theorem T_X5_findBestPlan {l : Launch} (hfl : l.stackTraces = false) (fl : Nat) (v0 : Nat) (s : Mem) (hv0 : shape v0 = some (.inl 7)) (ρ : (Int32 × Mem)) (hF : F_X5_findBestPlan fl v0 s = some ρ) : MetN l X_X5_findBestPlan false NF s [.ref v0] (.inr (some (.int ρ.1)), NF, ρ.2) := by
  unfold F_X5_findBestPlan at hF
  obtain ⟨r, hr⟩ : ∃ r : Rs, r = (.inr (some (.int ρ.1)), NF, ρ.2) := ⟨_, rfl⟩
  rw [← hr]
  refine met_of_E rfl rfl (by decide +kernel) hfl rfl (Nat.le_of_ble_eq_true rfl) ?_
  show E l X_X5_findBestPlan r false NF s 0 0 0 [(0, .ref v0)] []
  refine E_aload_n (j := 0) (i := 0) (q := 0) rfl rfl dX5_findBestPlan_0 ?_
  obtain ⟨q16, h17, hF⟩ := bd_inv hF
  refine E_callV (na := 0) (As := []) (S := []) (kc := 0) (ks := 0) (ci := 7) rfl rfl hv0 (shape_ord hv0).1 cwV_RX5_61 ⟨Nat.le_of_ble_eq_true rfl, Nat.le_of_ble_eq_true rfl⟩ (T_X5_survey hfl fl _ _ hv0 _ h17) rfl rfl rfl (Nat.le_of_ble_eq_true rfl) dX5_findBestPlan_1 ?_
  refine E_aload_n (j := 0) (i := 0) (q := 0) rfl rfl dX5_findBestPlan_4 ?_
  obtain ⟨q18, h19, hF⟩ := bd_inv hF
  refine E_callV (na := 0) (As := []) (S := []) (kc := 0) (ks := 0) (ci := 7) rfl rfl hv0 (shape_ord hv0).1 cwV_RX5_64 ⟨Nat.le_of_ble_eq_true rfl, Nat.le_of_ble_eq_true rfl⟩ (T_X5_sortPitches hfl fl _ _ hv0 _ h19) rfl rfl rfl (Nat.le_of_ble_eq_true rfl) dX5_findBestPlan_5 ?_
  refine E_iconst (v := (0 : Int32)) rfl dX5_findBestPlan_8 ?_
  refine E_istore_n (j := 1) (i := 1) (L' := [(1, .int (0 : Int32)), (0, .ref v0)]) rfl (Nat.le_of_ble_eq_true rfl) rfl dX5_findBestPlan_9 ?_
  refine E_sub [1, 0] rfl ?_
  exact T_X5_findBestPlan_10 hfl fl hr  fl _ _ _ hv0 hF
set_option maxHeartbeats 4000000 in
set_option maxRecDepth 100000 in
theorem T_X5_writeMoves_2 {l : Launch} (hfl : l.stackTraces = false) (fl : Nat) {r : Rs} {ρ : (Int32 × Mem)} (hr : r = (.inr (some (.int ρ.1)), NF, ρ.2)) : ∀ (n : Nat) (v0 : Nat) (v1 : Nat) (v2 : Int32) (s : Mem) (hv0 : shape v0 = some (.inl 7)), B_X5_writeMoves_2 fl n v0 v1 v2 s = some ρ → E l X_X5_writeMoves r false NF s 0 0 2 [(0, .ref v0), (1, .ref v1), (2, .int v2)] [] := by
  intro n
  induction n with
  | zero =>
    intro v0 v1 v2 s hv0 hF
    cases hF
  | succ n ih =>
    intro v0 v1 v2 s hv0 hF
    refine E_iload_n (j := 2) (i := 2) (q := 2) rfl rfl dX5_writeMoves_2 ?_
    refine E_aload_n (j := 0) (i := 0) (q := 0) rfl rfl dX5_writeMoves_3 ?_
    refine gf_RX5_67 rfl hv0 (shape_ord hv0).1 dX5_writeMoves_4 ?_
    refine E_icmp_gt (tgt := 53) rfl dX5_writeMoves_7 (fun c1 => ?_) (fun c1 => ?_)
    · have hF := ite_t hF c1
      refine E_aload_n (j := 0) (i := 0) (q := 0) rfl rfl dX5_writeMoves_53 ?_
      refine gf_RX5_67 rfl hv0 (shape_ord hv0).1 dX5_writeMoves_54 ?_
      exact E_iret (Or.inl rfl) rfl (by cases hF; exact hr) dX5_writeMoves_57
    · have hF := ite_f hF c1
      refine E_iload_n (j := 2) (i := 2) (q := 2) rfl rfl dX5_writeMoves_10 ?_
      refine E_iconst (v := (1 : Int32)) rfl dX5_writeMoves_11 ?_
      refine E_isub dX5_writeMoves_12 ?_
      refine E_iconst (v := (3 : Int32)) rfl dX5_writeMoves_13 ?_
      refine E_imul dX5_writeMoves_14 ?_
      refine E_istore_n (j := 3) (i := 3) (L' := [(3, .int ((v2 - (1 : Int32)) * (3 : Int32))), (0, .ref v0), (1, .ref v1), (2, .int v2)]) rfl (Nat.le_of_ble_eq_true rfl) rfl dX5_writeMoves_15 ?_
      refine E_aload_n (j := 1) (i := 1) (q := 2) rfl rfl dX5_writeMoves_16 ?_
      refine E_iload_n (j := 3) (i := 3) (q := 0) rfl rfl dX5_writeMoves_17 ?_
      refine E_aload_n (j := 0) (i := 0) (q := 1) rfl rfl dX5_writeMoves_18 ?_
      obtain ⟨r2, h3, hF⟩ := bd_inv hF
      have h3 := ldA_inv h3
      refine gf_RX5_29 rfl hv0 (shape_ord hv0).1 h3.1 dX5_writeMoves_19 ?_
      refine E_iload_n (j := 2) (i := 2) (q := 3) rfl rfl dX5_writeMoves_22 ?_
      obtain ⟨h4, hF⟩ := gd_inv hF
      refine E_iald _ h3.2 (shape_ord h3.2).1 h4 dX5_writeMoves_23 ?_
      obtain ⟨N5, h6, hF⟩ := bd_inv hF
      have h6 := aLen_inv h6
      obtain ⟨h7, hF⟩ := gd_inv hF
      refine E_iast _ h6 (shape_ord h6).1 h7 dX5_writeMoves_24 ?_
      obtain ⟨m8, e9, hF⟩ := nx_inv hF
      refine E_mem e9 ?_
      refine E_aload_n (j := 1) (i := 1) (q := 2) rfl rfl dX5_writeMoves_25 ?_
      refine E_iload_n (j := 3) (i := 3) (q := 0) rfl rfl dX5_writeMoves_26 ?_
      refine E_iconst (v := (1 : Int32)) rfl dX5_writeMoves_27 ?_
      refine E_iadd dX5_writeMoves_28 ?_
      refine E_aload_n (j := 0) (i := 0) (q := 1) rfl rfl dX5_writeMoves_29 ?_
      obtain ⟨r10, h11, hF⟩ := bd_inv hF
      have h11 := ldA_inv h11
      refine gf_RX5_33 rfl hv0 (shape_ord hv0).1 h11.1 dX5_writeMoves_30 ?_
      refine E_iload_n (j := 2) (i := 2) (q := 3) rfl rfl dX5_writeMoves_33 ?_
      obtain ⟨h12, hF⟩ := gd_inv hF
      refine E_iald _ h11.2 (shape_ord h11.2).1 h12 dX5_writeMoves_34 ?_
      obtain ⟨h13, hF⟩ := gd_inv hF
      refine E_iast _ h6 (shape_ord h6).1 h13 dX5_writeMoves_35 ?_
      obtain ⟨m14, e15, hF⟩ := nx_inv hF
      refine E_mem e15 ?_
      refine E_aload_n (j := 1) (i := 1) (q := 2) rfl rfl dX5_writeMoves_36 ?_
      refine E_iload_n (j := 3) (i := 3) (q := 0) rfl rfl dX5_writeMoves_37 ?_
      refine E_iconst (v := (2 : Int32)) rfl dX5_writeMoves_38 ?_
      refine E_iadd dX5_writeMoves_39 ?_
      refine E_aload_n (j := 0) (i := 0) (q := 1) rfl rfl dX5_writeMoves_40 ?_
      obtain ⟨r16, h17, hF⟩ := bd_inv hF
      have h17 := ldA_inv h17
      refine gf_RX5_36 rfl hv0 (shape_ord hv0).1 h17.1 dX5_writeMoves_41 ?_
      refine E_iload_n (j := 2) (i := 2) (q := 3) rfl rfl dX5_writeMoves_44 ?_
      obtain ⟨h18, hF⟩ := gd_inv hF
      refine E_iald _ h17.2 (shape_ord h17.2).1 h18 dX5_writeMoves_45 ?_
      obtain ⟨h19, hF⟩ := gd_inv hF
      refine E_iast _ h6 (shape_ord h6).1 h19 dX5_writeMoves_46 ?_
      obtain ⟨m20, e21, hF⟩ := nx_inv hF
      refine E_mem e21 ?_
      refine E_iinc (q := 3) (v := (v2 + (1 : Int32))) (L' := [(2, .int (v2 + (1 : Int32))), (3, .int ((v2 - (1 : Int32)) * (3 : Int32))), (0, .ref v0), (1, .ref v1)]) rfl rfl (Nat.le_of_ble_eq_true rfl) rfl dX5_writeMoves_47 ?_
      refine E_goto (tgt := 2) rfl dX5_writeMoves_50 ?_
      refine E_sub [2, 3, 0] rfl ?_
      exact ih _ _ _ _ hv0 hF
set_option maxHeartbeats 4000000 in
set_option maxRecDepth 100000 in
theorem T_X5_writeMoves {l : Launch} (hfl : l.stackTraces = false) (fl : Nat) (v0 : Nat) (v1 : Nat) (s : Mem) (hv0 : shape v0 = some (.inl 7)) (ρ : (Int32 × Mem)) (hF : F_X5_writeMoves fl v0 v1 s = some ρ) : MetN l X_X5_writeMoves false NF s [.ref v0, .ref v1] (.inr (some (.int ρ.1)), NF, ρ.2) := by
  unfold F_X5_writeMoves at hF
  obtain ⟨r, hr⟩ : ∃ r : Rs, r = (.inr (some (.int ρ.1)), NF, ρ.2) := ⟨_, rfl⟩
  rw [← hr]
  refine met_of_E rfl rfl (by decide +kernel) hfl rfl (Nat.le_of_ble_eq_true rfl) ?_
  show E l X_X5_writeMoves r false NF s 0 0 0 [(0, .ref v0), (1, .ref v1)] []
  refine E_iconst (v := (1 : Int32)) rfl dX5_writeMoves_0 ?_
  refine E_istore_n (j := 2) (i := 2) (L' := [(2, .int (1 : Int32)), (0, .ref v0), (1, .ref v1)]) rfl (Nat.le_of_ble_eq_true rfl) rfl dX5_writeMoves_1 ?_
  refine E_sub [1, 2, 0] rfl ?_
  exact T_X5_writeMoves_2 hfl fl hr  fl _ _ _ _ hv0 hF
set_option maxHeartbeats 4000000 in
set_option maxRecDepth 100000 in
theorem T_X5_carryOut_2 {l : Launch} (hfl : l.stackTraces = false) (fl : Nat) {r : Rs} {ρ : (Int32 × Mem)} (hr : r = (.inr (some (.int ρ.1)), NF, ρ.2)) : ∀ (n : Nat) (v0 : Nat) (v1 : Int32) (s : Mem) (hv0 : shape v0 = some (.inl 7)), B_X5_carryOut_2 fl n v0 v1 s = some ρ → E l X_X5_carryOut r false NF s 0 0 2 [(0, .ref v0), (1, .int v1)] [] := by
  intro n
  induction n with
  | zero =>
    intro v0 v1 s hv0 hF
    cases hF
  | succ n ih =>
    intro v0 v1 s hv0 hF
    refine E_iload_n (j := 1) (i := 1) (q := 1) rfl rfl dX5_carryOut_2 ?_
    refine E_aload_n (j := 0) (i := 0) (q := 0) rfl rfl dX5_carryOut_3 ?_
    refine gf_RX5_67 rfl hv0 (shape_ord hv0).1 dX5_carryOut_4 ?_
    refine E_icmp_gt (tgt := 31) rfl dX5_carryOut_7 (fun c1 => ?_) (fun c1 => ?_)
    · have hF := ite_t hF c1
      refine E_aload_n (j := 0) (i := 0) (q := 0) rfl rfl dX5_carryOut_31 ?_
      obtain ⟨r2, h3, hF⟩ := bd_inv hF
      have h3 := ldO_inv h3
      refine gf_RX5_12 rfl hv0 (shape_ord hv0).1 h3.1 dX5_carryOut_32 ?_
      refine E_aload_n (j := 0) (i := 0) (q := 0) rfl rfl dX5_carryOut_35 ?_
      obtain ⟨r4, h5, hF⟩ := bd_inv hF
      have h5 := ldO_inv h5
      refine gf_RX5_21 rfl hv0 (shape_ord hv0).1 h5.1 dX5_carryOut_36 ?_
      refine E_aload_n (j := 0) (i := 0) (q := 0) rfl rfl dX5_carryOut_39 ?_
      obtain ⟨r6, h7, hF⟩ := bd_inv hF
      have h7 := ldA_inv h7
      refine gf_RX5_36 rfl hv0 (shape_ord hv0).1 h7.1 dX5_carryOut_40 ?_
      refine E_iconst (v := (0 : Int32)) rfl dX5_carryOut_43 ?_
      obtain ⟨h8, hF⟩ := gd_inv hF
      refine E_iald _ h7.2 (shape_ord h7.2).1 h8 dX5_carryOut_44 ?_
      obtain ⟨q9, h10, hF⟩ := bd_inv hF
      refine E_callV (na := 2) (As := [.ref r4, .int (gI s r6.1 (0 : Int32).toNatClampNeg)]) (S := []) (kc := 0) (ks := 0) (ci := 3) rfl rfl h3.2 (shape_ord h3.2).1 cwV_RX5_85 ⟨Nat.le_of_ble_eq_true rfl, Nat.le_of_ble_eq_true rfl⟩ (T_X1_makeParty hfl fl _ _ _ _ h3.2 h5.2 _ h10) rfl rfl rfl (Nat.le_of_ble_eq_true rfl) dX5_carryOut_45 ?_
      exact E_iret (Or.inl rfl) rfl (by cases hF; exact hr) dX5_carryOut_48
    · have hF := ite_f hF c1
      refine E_aload_n (j := 0) (i := 0) (q := 0) rfl rfl dX5_carryOut_10 ?_
      obtain ⟨r11, h12, hF⟩ := bd_inv hF
      have h12 := ldA_inv h12
      refine gf_RX5_25 rfl hv0 (shape_ord hv0).1 h12.1 dX5_carryOut_11 ?_
      refine E_iload_n (j := 1) (i := 1) (q := 1) rfl rfl dX5_carryOut_14 ?_
      obtain ⟨h13, hF⟩ := gd_inv hF
      obtain ⟨r14, h15, hF⟩ := bd_inv hF
      have h15 := ldO_inv h15
      refine E_aald _ ⟨Nat.le_of_ble_eq_true rfl, Nat.le_of_ble_eq_true rfl⟩ h12.2 (shape_ord h12.2).1 h13 h15.1 dX5_carryOut_15 ?_
      refine E_aload_n (j := 0) (i := 0) (q := 0) rfl rfl dX5_carryOut_16 ?_
      obtain ⟨r16, h17, hF⟩ := bd_inv hF
      have h17 := ldA_inv h17
      refine gf_RX5_36 rfl hv0 (shape_ord hv0).1 h17.1 dX5_carryOut_17 ?_
      refine E_iload_n (j := 1) (i := 1) (q := 1) rfl rfl dX5_carryOut_20 ?_
      obtain ⟨h18, hF⟩ := gd_inv hF
      refine E_iald _ h17.2 (shape_ord h17.2).1 h18 dX5_carryOut_21 ?_
      refine pf_RX5_82 rfl h15.2 (shape_ord h15.2).1 dX5_carryOut_22 ?_
      obtain ⟨m19, e20, hF⟩ := nx_inv hF
      refine E_mem e20 ?_
      refine E_iinc (q := 1) (v := (v1 + (1 : Int32))) (L' := [(1, .int (v1 + (1 : Int32))), (0, .ref v0)]) rfl rfl (Nat.le_of_ble_eq_true rfl) rfl dX5_carryOut_25 ?_
      refine E_goto (tgt := 2) rfl dX5_carryOut_28 ?_
      refine E_sub [1, 0] rfl ?_
      exact ih _ _ _ hv0 hF
set_option maxHeartbeats 4000000 in
set_option maxRecDepth 100000 in
theorem T_X5_carryOut {l : Launch} (hfl : l.stackTraces = false) (fl : Nat) (v0 : Nat) (s : Mem) (hv0 : shape v0 = some (.inl 7)) (ρ : (Int32 × Mem)) (hF : F_X5_carryOut fl v0 s = some ρ) : MetN l X_X5_carryOut false NF s [.ref v0] (.inr (some (.int ρ.1)), NF, ρ.2) := by
  unfold F_X5_carryOut at hF
  obtain ⟨r, hr⟩ : ∃ r : Rs, r = (.inr (some (.int ρ.1)), NF, ρ.2) := ⟨_, rfl⟩
  rw [← hr]
  refine met_of_E rfl rfl (by decide +kernel) hfl rfl (Nat.le_of_ble_eq_true rfl) ?_
  show E l X_X5_carryOut r false NF s 0 0 0 [(0, .ref v0)] []
  refine E_iconst (v := (1 : Int32)) rfl dX5_carryOut_0 ?_
  refine E_istore_n (j := 1) (i := 1) (L' := [(1, .int (1 : Int32)), (0, .ref v0)]) rfl (Nat.le_of_ble_eq_true rfl) rfl dX5_carryOut_1 ?_
  refine E_sub [1, 0] rfl ?_
  exact T_X5_carryOut_2 hfl fl hr  fl _ _ _ hv0 hF
set_option maxHeartbeats 4000000 in
set_option maxRecDepth 100000 in
theorem T_X7_isWithin {l : Launch} (hfl : l.stackTraces = false) (fl : Nat) (v0 : Int32) (v1 : Int32) (v2 : Int32) (s : Mem) (ρ : Int32) (hF : F_X7_isWithin fl v0 v1 v2 s = some ρ) : MetN l X_X7_isWithin false NF s [.int v0, .int v1, .int v2] (.inr (some (.int ρ)), NF, s) := by
  unfold F_X7_isWithin at hF
  obtain ⟨r, hr⟩ : ∃ r : Rs, r = (.inr (some (.int ρ)), NF, s) := ⟨_, rfl⟩
  rw [← hr]
  refine met_of_E rfl rfl (by decide +kernel) hfl rfl (Nat.le_of_ble_eq_true rfl) ?_
  show E l X_X7_isWithin r false NF s 0 0 0 [(0, .int v0), (1, .int v1), (2, .int v2)] []
  refine E_iload_n (j := 0) (i := 0) (q := 0) rfl rfl dX7_isWithin_0 ?_
  refine E_iload_n (j := 1) (i := 1) (q := 1) rfl rfl dX7_isWithin_1 ?_
  refine E_icmp_lt (tgt := 14) rfl dX7_isWithin_2 (fun c1 => ?_) (fun c1 => ?_)
  · have hF := ite_t hF c1
    refine E_iconst (v := (0 : Int32)) rfl dX7_isWithin_14 ?_
    exact E_zret (ty := .boolean) (Or.inl rfl) rfl rfl (by cases hF; exact hr) dX7_isWithin_15
  · have hF := ite_f hF c1
    refine E_iload_n (j := 0) (i := 0) (q := 0) rfl rfl dX7_isWithin_5 ?_
    refine E_iload_n (j := 2) (i := 2) (q := 2) rfl rfl dX7_isWithin_6 ?_
    refine E_icmp_gt (tgt := 14) rfl dX7_isWithin_7 (fun c2 => ?_) (fun c2 => ?_)
    · have hF := ite_t hF c2
      refine E_iconst (v := (0 : Int32)) rfl dX7_isWithin_14 ?_
      exact E_zret (ty := .boolean) (Or.inl rfl) rfl rfl (by cases hF; exact hr) dX7_isWithin_15
    · have hF := ite_f hF c2
      refine E_iconst (v := (1 : Int32)) rfl dX7_isWithin_10 ?_
      refine E_goto (tgt := 15) rfl dX7_isWithin_11 ?_
      exact E_zret (ty := .boolean) (Or.inl rfl) rfl rfl (by cases hF; exact hr) dX7_isWithin_15
set_option maxHeartbeats 4000000 in
set_option maxRecDepth 100000 in
theorem T_X7_addPitch_39 {l : Launch} (hfl : l.stackTraces = false) (fl : Nat) {r : Rs} {ρ : ((Nat ⊕ Int32) × Mem)} (hr : r = (rX ρ.1, NF, ρ.2)) (s : Mem) (hF : B_X7_addPitch_39 fl s = some ρ) : E l X_X7_addPitch r false NF s 1 6 39 [] [] := by
  unfold B_X7_addPitch_39 at hF
  exact E_throw (ex := 1) (text := "a number of the pitch is out of range") (kc := 0) (ks := 0) rfl rfl (by cases hF; exact hr) wT193 wT194 (by decide +kernel) at_RX7_64.1 at_RX7_64.2 (by decide +kernel) ⟨Nat.le_of_ble_eq_true rfl, Nat.le_of_ble_eq_true rfl⟩ (Nat.le_of_ble_eq_true rfl) dX7_addPitch_39 dX7_addPitch_42 dX7_addPitch_43 dX7_addPitch_45 dX7_addPitch_48
set_option maxHeartbeats 4000000 in
set_option maxRecDepth 100000 in
theorem T_X7_addPitch {l : Launch} (hfl : l.stackTraces = false) (fl : Nat) (v0 : Nat) (v1 : Int32) (v2 : Int32) (v3 : Int32) (v4 : Int32) (s : Mem) (hv0 : shape v0 = some (.inl 9)) (ρ : ((Nat ⊕ Int32) × Mem)) (hF : F_X7_addPitch fl v0 v1 v2 v3 v4 s = some ρ) : MetX l X_X7_addPitch NF s [.ref v0, .int v1, .int v2, .int v3, .int v4] (rX ρ.1, NF, ρ.2) := by
  unfold F_X7_addPitch at hF
  obtain ⟨r, hr⟩ : ∃ r : Rs, r = (rX ρ.1, NF, ρ.2) := ⟨_, rfl⟩
  rw [← hr]
  refine metX_of_E rfl rfl (by decide +kernel) hfl rfl (Nat.le_of_ble_eq_true rfl) ?_
  show E l X_X7_addPitch r false NF s 1 6 0 [(0, .ref v0), (1, .int v1), (2, .int v2), (3, .int v3), (4, .int v4)] []
  refine E_iload_n (j := 1) (i := 1) (q := 1) rfl rfl dX7_addPitch_0 ?_
  refine E_iconst (v := (0 : Int32)) rfl dX7_addPitch_1 ?_
  refine E_iconst (v := (2 : Int32)) rfl dX7_addPitch_2 ?_
  obtain ⟨q1, h2, hF⟩ := bd_inv hF
  refine E_callS (na := 3) (As := [.int v1, .int (0 : Int32), .int (2 : Int32)]) (S := []) (kc := 1) (ks := 6) cwS_RX7_56 ⟨Nat.le_of_ble_eq_true rfl, Nat.le_of_ble_eq_true rfl⟩ (T_X7_isWithin hfl fl _ _ _ _  _ h2) rfl rfl rfl (Nat.le_of_ble_eq_true rfl) dX7_addPitch_3 ?_
  refine E_if_eq (tgt := 39) rfl dX7_addPitch_6 (fun c3 => ?_) (fun c3 => ?_)
  · have hF := ite_t hF c3
    refine E_sub [] rfl ?_
    exact T_X7_addPitch_39 hfl fl hr  _  hF
  · have hF := ite_f hF c3
    refine E_iload_n (j := 2) (i := 2) (q := 2) rfl rfl dX7_addPitch_9 ?_
    refine E_iconst (v := (2 : Int32)) rfl dX7_addPitch_10 ?_
    refine E_bipush (v := (12 : Int32)) rfl dX7_addPitch_11 ?_
    obtain ⟨q4, h5, hF⟩ := bd_inv hF
    refine E_callS (na := 3) (As := [.int v2, .int (2 : Int32), .int (12 : Int32)]) (S := []) (kc := 1) (ks := 6) cwS_RX7_56 ⟨Nat.le_of_ble_eq_true rfl, Nat.le_of_ble_eq_true rfl⟩ (T_X7_isWithin hfl fl _ _ _ _  _ h5) rfl rfl rfl (Nat.le_of_ble_eq_true rfl) dX7_addPitch_13 ?_
    refine E_if_eq (tgt := 39) rfl dX7_addPitch_16 (fun c6 => ?_) (fun c6 => ?_)
    · have hF := ite_t hF c6
      refine E_sub [] rfl ?_
      exact T_X7_addPitch_39 hfl fl hr  _  hF
    · have hF := ite_f hF c6
      refine E_iload_n (j := 3) (i := 3) (q := 3) rfl rfl dX7_addPitch_19 ?_
      refine E_iconst (v := (2 : Int32)) rfl dX7_addPitch_20 ?_
      refine E_bipush (v := (12 : Int32)) rfl dX7_addPitch_21 ?_
      obtain ⟨q7, h8, hF⟩ := bd_inv hF
      refine E_callS (na := 3) (As := [.int v3, .int (2 : Int32), .int (12 : Int32)]) (S := []) (kc := 1) (ks := 6) cwS_RX7_56 ⟨Nat.le_of_ble_eq_true rfl, Nat.le_of_ble_eq_true rfl⟩ (T_X7_isWithin hfl fl _ _ _ _  _ h8) rfl rfl rfl (Nat.le_of_ble_eq_true rfl) dX7_addPitch_23 ?_
      refine E_if_eq (tgt := 39) rfl dX7_addPitch_26 (fun c9 => ?_) (fun c9 => ?_)
      · have hF := ite_t hF c9
        refine E_sub [] rfl ?_
        exact T_X7_addPitch_39 hfl fl hr  _  hF
      · have hF := ite_f hF c9
        refine E_iload (q := 4) rfl dX7_addPitch_29 ?_
        refine E_iconst (v := (-1 : Int32)) rfl dX7_addPitch_31 ?_
        refine E_iconst (v := (2 : Int32)) rfl dX7_addPitch_32 ?_
        obtain ⟨q10, h11, hF⟩ := bd_inv hF
        refine E_callS (na := 3) (As := [.int v4, .int (-1 : Int32), .int (2 : Int32)]) (S := []) (kc := 1) (ks := 6) cwS_RX7_56 ⟨Nat.le_of_ble_eq_true rfl, Nat.le_of_ble_eq_true rfl⟩ (T_X7_isWithin hfl fl _ _ _ _  _ h11) rfl rfl rfl (Nat.le_of_ble_eq_true rfl) dX7_addPitch_33 ?_
        refine E_if_ne (tgt := 49) rfl dX7_addPitch_36 (fun c12 => ?_) (fun c12 => ?_)
        · have hF := ite_f hF c12
          refine E_aload_n (j := 0) (i := 0) (q := 0) rfl rfl dX7_addPitch_49 ?_
          obtain ⟨r13, h14, hF⟩ := bd_inv hF
          have h14 := ldO_inv h14
          refine gf_RX7_20 rfl hv0 (shape_ord hv0).1 h14.1 dX7_addPitch_50 ?_
          refine gf_RX7_67 rfl h14.2 (shape_ord h14.2).1 dX7_addPitch_53 ?_
          refine E_bipush (v := (6 : Int32)) rfl dX7_addPitch_56 ?_
          refine E_icmp_lt (tgt := 71) rfl dX7_addPitch_58 (fun c15 => ?_) (fun c15 => ?_)
          · have hF := ite_t hF c15
            refine E_aload_n (j := 0) (i := 0) (q := 0) rfl rfl dX7_addPitch_71 ?_
            obtain ⟨r16, h17, hF⟩ := bd_inv hF
            have h17 := ldO_inv h17
            refine gf_RX7_34 rfl hv0 (shape_ord hv0).1 h17.1 dX7_addPitch_72 ?_
            refine E_aload_n (j := 0) (i := 0) (q := 0) rfl rfl dX7_addPitch_75 ?_
            obtain ⟨r18, h19, hF⟩ := bd_inv hF
            have h19 := ldO_inv h19
            refine gf_RX7_20 rfl hv0 (shape_ord hv0).1 h19.1 dX7_addPitch_76 ?_
            obtain ⟨q20, h21, hF⟩ := bd_inv hF
            refine E_callV (na := 1) (As := [.ref r18]) (S := []) (kc := 1) (ks := 6) (ci := 4) rfl rfl h17.2 (shape_ord h17.2).1 cwV_RX7_75 ⟨Nat.le_of_ble_eq_true rfl, Nat.le_of_ble_eq_true rfl⟩ (T_X2_keep hfl fl _ _ _ h17.2 h19.2 _ h21) rfl rfl rfl (Nat.le_of_ble_eq_true rfl) dX7_addPitch_79 ?_
            refine E_aload_n (j := 0) (i := 0) (q := 0) rfl rfl dX7_addPitch_82 ?_
            obtain ⟨r22, h23, hF⟩ := bd_inv hF
            have h23 := ldO_inv h23
            refine gf_RX7_20 rfl hv0 (shape_ord hv0).1 h23.1 dX7_addPitch_83 ?_
            refine E_iload_n (j := 1) (i := 1) (q := 1) rfl rfl dX7_addPitch_86 ?_
            refine E_iload_n (j := 2) (i := 2) (q := 2) rfl rfl dX7_addPitch_87 ?_
            refine E_iload_n (j := 3) (i := 3) (q := 3) rfl rfl dX7_addPitch_88 ?_
            refine E_iload (q := 4) rfl dX7_addPitch_89 ?_
            obtain ⟨q24, h25, hF⟩ := bd_inv hF
            refine E_callV (na := 4) (As := [.int v1, .int v2, .int v3, .int v4]) (S := []) (kc := 1) (ks := 6) (ci := 3) rfl rfl h23.2 (shape_ord h23.2).1 cwV_RX7_79 ⟨Nat.le_of_ble_eq_true rfl, Nat.le_of_ble_eq_true rfl⟩ (T_X1_makePitch hfl fl _ _ _ _ _ _ h23.2 _ h25) rfl rfl rfl (Nat.le_of_ble_eq_true rfl) dX7_addPitch_91 ?_
            exact E_iret (Or.inr ⟨rfl, rfl⟩) rfl (by cases hF; exact hr) dX7_addPitch_94
          · have hF := ite_f hF c15
            exact E_throw (ex := 2) (text := "all pitches are made") (kc := 0) (ks := 0) rfl rfl (by cases hF; exact hr) wT207 wT208 (by decide +kernel) at_RX7_74.1 at_RX7_74.2 (by decide +kernel) ⟨Nat.le_of_ble_eq_true rfl, Nat.le_of_ble_eq_true rfl⟩ (Nat.le_of_ble_eq_true rfl) dX7_addPitch_61 dX7_addPitch_64 dX7_addPitch_65 dX7_addPitch_67 dX7_addPitch_70
        · have hF := ite_t hF c12
          refine E_sub [] rfl ?_
          exact T_X7_addPitch_39 hfl fl hr  _  hF
set_option maxHeartbeats 4000000 in
set_option maxRecDepth 100000 in
theorem T_X7_requirePitch {l : Launch} (hfl : l.stackTraces = false) (fl : Nat) (v0 : Nat) (v1 : Int32) (s : Mem) (hv0 : shape v0 = some (.inl 9)) (ρ : ((Nat ⊕ Unit) × Mem)) (hF : F_X7_requirePitch fl v0 v1 s = some ρ) : MetX l X_X7_requirePitch NF s [.ref v0, .int v1] (rXv ρ.1, NF, ρ.2) := by
  unfold F_X7_requirePitch at hF
  obtain ⟨r, hr⟩ : ∃ r : Rs, r = (rXv ρ.1, NF, ρ.2) := ⟨_, rfl⟩
  rw [← hr]
  refine metX_of_E rfl rfl (by decide +kernel) hfl rfl (Nat.le_of_ble_eq_true rfl) ?_
  show E l X_X7_requirePitch r false NF s 1 6 0 [(0, .ref v0), (1, .int v1)] []
  refine E_aload_n (j := 0) (i := 0) (q := 0) rfl rfl dX7_requirePitch_0 ?_
  obtain ⟨r1, h2, hF⟩ := bd_inv hF
  have h2 := ldO_inv h2
  refine gf_RX7_20 rfl hv0 (shape_ord hv0).1 h2.1 dX7_requirePitch_1 ?_
  refine E_iload_n (j := 1) (i := 1) (q := 1) rfl rfl dX7_requirePitch_4 ?_
  obtain ⟨q3, h4, hF⟩ := bd_inv hF
  refine E_callV (na := 1) (As := [.int v1]) (S := []) (kc := 1) (ks := 6) (ci := 3) rfl rfl h2.2 (shape_ord h2.2).1 cwV_RX7_379 ⟨Nat.le_of_ble_eq_true rfl, Nat.le_of_ble_eq_true rfl⟩ (T_X1_hasPitch hfl fl _ _ _ h2.2 _ h4) rfl rfl rfl (Nat.le_of_ble_eq_true rfl) dX7_requirePitch_5 ?_
  refine E_if_ne (tgt := 22) rfl dX7_requirePitch_8 (fun c5 => ?_) (fun c5 => ?_)
  · have hF := ite_f hF c5
    exact E_vret (Or.inr ⟨rfl, rfl⟩) rfl (by cases hF; exact hr) dX7_requirePitch_22
  · have hF := ite_t hF c5
    exact E_throwW (ex := 3) (text := "there is no such pitch") (kc := 0) (ks := 0) rfl rfl (by cases hF; exact hr) wT210 wT211 (by decide +kernel) at_RX7_386.1 at_RX7_386.2 (by decide +kernel) ⟨Nat.le_of_ble_eq_true rfl, Nat.le_of_ble_eq_true rfl⟩ (Nat.le_of_ble_eq_true rfl) dX7_requirePitch_11 dX7_requirePitch_14 dX7_requirePitch_15 dX7_requirePitch_18 dX7_requirePitch_21
set_option maxHeartbeats 4000000 in
set_option maxRecDepth 100000 in
theorem T_X7_pitch {l : Launch} (hfl : l.stackTraces = false) (fl : Nat) (v0 : Nat) (v1 : Int32) (v2 : Int32) (s : Mem) (hv0 : shape v0 = some (.inl 9)) (ρ : ((Nat ⊕ Int32) × Mem)) (hF : F_X7_pitch fl v0 v1 v2 s = some ρ) : MetX l X_X7_pitch NF s [.ref v0, .int v1, .int v2] (rX ρ.1, NF, ρ.2) := by
  unfold F_X7_pitch at hF
  obtain ⟨r, hr⟩ : ∃ r : Rs, r = (rX ρ.1, NF, ρ.2) := ⟨_, rfl⟩
  rw [← hr]
  refine metX_of_E rfl rfl (by decide +kernel) hfl rfl (Nat.le_of_ble_eq_true rfl) ?_
  show E l X_X7_pitch r false NF s 2 12 0 [(0, .ref v0), (1, .int v1), (2, .int v2)] []
  refine E_aload_n (j := 0) (i := 0) (q := 0) rfl rfl dX7_pitch_0 ?_
  refine E_iload_n (j := 1) (i := 1) (q := 1) rfl rfl dX7_pitch_1 ?_
  obtain ⟨q1, h2, hF⟩ := bd_inv hF
  have hM5 := T_X7_requirePitch hfl fl _ _ _ hv0 _ h2
  rcases xb_inv hF with ⟨e6, h4, hF⟩ | ⟨u9, h4, hF⟩
  · rw [h4] at hM5
    exact E_callVX_t (na := 1) (As := [.int v1]) (S := []) (kc := 1) (ks := 6) (ci := 9) rfl rfl hv0 (shape_ord hv0).1 cwV_RX7_83 rfl rfl (by cases hF; exact hr) ⟨Nat.le_of_ble_eq_true rfl, Nat.le_of_ble_eq_true rfl⟩ hM5 rfl rfl (Nat.le_of_ble_eq_true rfl) dX7_pitch_2
  · rw [h4] at hM5
    generalize q1.2 = s3 at hF hM5
    refine E_callVX (na := 1) (As := [.int v1]) (S := []) (kc := 1) (ks := 6) (ci := 9) rfl rfl hv0 (shape_ord hv0).1 cwV_RX7_83 ⟨Nat.le_of_ble_eq_true rfl, Nat.le_of_ble_eq_true rfl⟩ hM5 rfl rfl rfl (Nat.le_of_ble_eq_true rfl) dX7_pitch_2 ?_
    refine E_aload_n (j := 0) (i := 0) (q := 0) rfl rfl dX7_pitch_5 ?_
    obtain ⟨r7, h8, hF⟩ := bd_inv hF
    have h8 := ldO_inv h8
    refine gf_RX7_20 rfl hv0 (shape_ord hv0).1 h8.1 dX7_pitch_6 ?_
    obtain ⟨r9, h10, hF⟩ := bd_inv hF
    have h10 := ldA_inv h10
    refine gf_RX7_87 rfl h8.2 (shape_ord h8.2).1 h10.1 dX7_pitch_9 ?_
    refine E_iload_n (j := 1) (i := 1) (q := 1) rfl rfl dX7_pitch_12 ?_
    obtain ⟨h11, hF⟩ := gd_inv hF
    obtain ⟨r12, h13, hF⟩ := bd_inv hF
    have h13 := ldO_inv h13
    refine E_aald _ ⟨Nat.le_of_ble_eq_true rfl, Nat.le_of_ble_eq_true rfl⟩ h10.2 (shape_ord h10.2).1 h11 h13.1 dX7_pitch_13 ?_
    refine E_astore_n (j := 3) (i := 3) (L' := [(3, .ref r12), (0, .ref v0), (1, .int v1), (2, .int v2)]) rfl (Nat.le_of_ble_eq_true rfl) rfl dX7_pitch_14 ?_
    refine E_iload_n (j := 2) (i := 2) (q := 3) rfl rfl dX7_pitch_15 ?_
    by_cases c14 : v2 = 0
    · have hF := ite_t hF c14
      refine E_tabIn (off := 44) (tgt := 60) (by rw [c14]; decide) (by rw [c14]; decide) (by rw [c14]; rfl) rfl dX7_pitch_16 ?_
      refine E_aload_n (j := 3) (i := 3) (q := 0) rfl rfl dX7_pitch_60 ?_
      refine gf_RX7_91 rfl h13.2 (shape_ord h13.2).1 dX7_pitch_61 ?_
      exact E_iret (Or.inr ⟨rfl, rfl⟩) rfl (by cases hF; exact hr) dX7_pitch_64
    · have hF := ite_f hF c14
      by_cases c15 : v2 = 1
      · have hF := ite_t hF c15
        refine E_tabIn (off := 49) (tgt := 65) (by rw [c15]; decide) (by rw [c15]; decide) (by rw [c15]; rfl) rfl dX7_pitch_16 ?_
        refine E_aload_n (j := 3) (i := 3) (q := 0) rfl rfl dX7_pitch_65 ?_
        refine gf_RX7_96 rfl h13.2 (shape_ord h13.2).1 dX7_pitch_66 ?_
        exact E_iret (Or.inr ⟨rfl, rfl⟩) rfl (by cases hF; exact hr) dX7_pitch_69
      · have hF := ite_f hF c15
        by_cases c16 : v2 = 2
        · have hF := ite_t hF c16
          refine E_tabIn (off := 54) (tgt := 70) (by rw [c16]; decide) (by rw [c16]; decide) (by rw [c16]; rfl) rfl dX7_pitch_16 ?_
          refine E_aload_n (j := 3) (i := 3) (q := 0) rfl rfl dX7_pitch_70 ?_
          refine gf_RX7_99 rfl h13.2 (shape_ord h13.2).1 dX7_pitch_71 ?_
          exact E_iret (Or.inr ⟨rfl, rfl⟩) rfl (by cases hF; exact hr) dX7_pitch_74
        · have hF := ite_f hF c16
          by_cases c17 : v2 = 3
          · have hF := ite_t hF c17
            refine E_tabIn (off := 59) (tgt := 75) (by rw [c17]; decide) (by rw [c17]; decide) (by rw [c17]; rfl) rfl dX7_pitch_16 ?_
            refine E_aload_n (j := 3) (i := 3) (q := 0) rfl rfl dX7_pitch_75 ?_
            refine gf_RX7_102 rfl h13.2 (shape_ord h13.2).1 dX7_pitch_76 ?_
            exact E_iret (Or.inr ⟨rfl, rfl⟩) rfl (by cases hF; exact hr) dX7_pitch_79
          · have hF := ite_f hF c17
            by_cases c18 : v2 = 4
            · have hF := ite_t hF c18
              refine E_tabIn (off := 64) (tgt := 80) (by rw [c18]; decide) (by rw [c18]; decide) (by rw [c18]; rfl) rfl dX7_pitch_16 ?_
              refine E_aload_n (j := 3) (i := 3) (q := 0) rfl rfl dX7_pitch_80 ?_
              refine gf_RX7_105 rfl h13.2 (shape_ord h13.2).1 dX7_pitch_81 ?_
              exact E_iret (Or.inr ⟨rfl, rfl⟩) rfl (by cases hF; exact hr) dX7_pitch_84
            · have hF := ite_f hF c18
              by_cases c19 : v2 = 5
              · have hF := ite_t hF c19
                refine E_tabIn (off := 69) (tgt := 85) (by rw [c19]; decide) (by rw [c19]; decide) (by rw [c19]; rfl) rfl dX7_pitch_16 ?_
                refine E_aload_n (j := 0) (i := 0) (q := 1) rfl rfl dX7_pitch_85 ?_
                obtain ⟨r20, h21, hF⟩ := bd_inv hF
                have h21 := ldO_inv h21
                refine gf_RX7_20 rfl hv0 (shape_ord hv0).1 h21.1 dX7_pitch_86 ?_
                refine E_iload_n (j := 1) (i := 1) (q := 2) rfl rfl dX7_pitch_89 ?_
                refine E_iconst (v := (-1 : Int32)) rfl dX7_pitch_90 ?_
                obtain ⟨q22, h23, hF⟩ := bd_inv hF
                refine E_callV (na := 2) (As := [.int v1, .int (-1 : Int32)]) (S := []) (kc := 1) (ks := 6) (ci := 3) rfl rfl h21.2 (shape_ord h21.2).1 cwV_RX7_108 ⟨Nat.le_of_ble_eq_true rfl, Nat.le_of_ble_eq_true rfl⟩ (T_X1_busyNights hfl fl _ _ _ _ h21.2 _ h23) rfl rfl rfl (Nat.le_of_ble_eq_true rfl) dX7_pitch_91 ?_
                obtain ⟨q24, h25, hF⟩ := bd_inv hF
                refine E_callS (na := 1) (As := [.long q22]) (S := []) (kc := 1) (ks := 6) cwS_RX7_112 ⟨Nat.le_of_ble_eq_true rfl, Nat.le_of_ble_eq_true rfl⟩ (T_J13_bitCount_95d88 hfl fl _ _  _ h25) rfl rfl rfl (Nat.le_of_ble_eq_true rfl) dX7_pitch_94 ?_
                exact E_iret (Or.inr ⟨rfl, rfl⟩) rfl (by cases hF; exact hr) dX7_pitch_97
              · have hF := ite_f hF c19
                by_cases c26 : v2 = 6
                · have hF := ite_t hF c26
                  refine E_tabIn (off := 82) (tgt := 98) (by rw [c26]; decide) (by rw [c26]; decide) (by rw [c26]; rfl) rfl dX7_pitch_16 ?_
                  refine E_aload_n (j := 0) (i := 0) (q := 1) rfl rfl dX7_pitch_98 ?_
                  obtain ⟨r27, h28, hF⟩ := bd_inv hF
                  have h28 := ldO_inv h28
                  refine gf_RX7_20 rfl hv0 (shape_ord hv0).1 h28.1 dX7_pitch_99 ?_
                  refine E_aload_n (j := 0) (i := 0) (q := 1) rfl rfl dX7_pitch_102 ?_
                  obtain ⟨r29, h30, hF⟩ := bd_inv hF
                  have h30 := ldO_inv h30
                  refine gf_RX7_20 rfl hv0 (shape_ord hv0).1 h30.1 dX7_pitch_103 ?_
                  refine E_iload_n (j := 1) (i := 1) (q := 2) rfl rfl dX7_pitch_106 ?_
                  refine E_iconst (v := (-1 : Int32)) rfl dX7_pitch_107 ?_
                  obtain ⟨q31, h32, hF⟩ := bd_inv hF
                  refine E_callV (na := 2) (As := [.int v1, .int (-1 : Int32)]) (S := [.ref r27]) (kc := 1) (ks := 6) (ci := 3) rfl rfl h30.2 (shape_ord h30.2).1 cwV_RX7_108 ⟨Nat.le_of_ble_eq_true rfl, Nat.le_of_ble_eq_true rfl⟩ (T_X1_busyNights hfl fl _ _ _ _ h30.2 _ h32) rfl rfl rfl (Nat.le_of_ble_eq_true rfl) dX7_pitch_108 ?_
                  obtain ⟨q33, h34, hF⟩ := bd_inv hF
                  refine E_callV (na := 1) (As := [.long q31]) (S := []) (kc := 1) (ks := 6) (ci := 3) rfl rfl h28.2 (shape_ord h28.2).1 cwV_RX7_118 ⟨Nat.le_of_ble_eq_true rfl, Nat.le_of_ble_eq_true rfl⟩ (T_X1_countGaps hfl fl _ _ _ h28.2 _ h34) rfl rfl rfl (Nat.le_of_ble_eq_true rfl) dX7_pitch_111 ?_
                  exact E_iret (Or.inr ⟨rfl, rfl⟩) rfl (by cases hF; exact hr) dX7_pitch_114
                · have hF := ite_f hF c26
                  refine E_tabOut (tgt := 115) (tab_out fun z9 z1 z2 => by rcases (show z9 = 0 ∨ z9 = 1 ∨ z9 = 2 ∨ z9 = 3 ∨ z9 = 4 ∨ z9 = 5 ∨ z9 = 6 by omega) with rfl | rfl | rfl | rfl | rfl | rfl | rfl; exact c14; exact c15; exact c16; exact c17; exact c18; exact c19; exact c26) rfl dX7_pitch_16 ?_
                  exact E_throw (ex := 1) (text := "there is no such number of a pitch") (kc := 0) (ks := 0) rfl rfl (by cases hF; exact hr) wT193 wT194 (by decide +kernel) at_RX7_64.1 at_RX7_64.2 (by decide +kernel) ⟨Nat.le_of_ble_eq_true rfl, Nat.le_of_ble_eq_true rfl⟩ (Nat.le_of_ble_eq_true rfl) dX7_pitch_115 dX7_pitch_118 dX7_pitch_119 dX7_pitch_121 dX7_pitch_124
set_option maxHeartbeats 4000000 in
set_option maxRecDepth 100000 in
theorem T_X7_requireCircuit {l : Launch} (hfl : l.stackTraces = false) (fl : Nat) (v0 : Int32) (s : Mem) (ρ : ((Nat ⊕ Unit) × Mem)) (hF : F_X7_requireCircuit fl v0 s = some ρ) : MetX l X_X7_requireCircuit NF s [.int v0] (rXv ρ.1, NF, ρ.2) := by
  unfold F_X7_requireCircuit at hF
  obtain ⟨r, hr⟩ : ∃ r : Rs, r = (rXv ρ.1, NF, ρ.2) := ⟨_, rfl⟩
  rw [← hr]
  refine metX_of_E rfl rfl (by decide +kernel) hfl rfl (Nat.le_of_ble_eq_true rfl) ?_
  show E l X_X7_requireCircuit r false NF s 1 6 0 [(0, .int v0)] []
  refine E_iload_n (j := 0) (i := 0) (q := 0) rfl rfl dX7_requireCircuit_0 ?_
  obtain ⟨q1, h2, hF⟩ := bd_inv hF
  refine E_callS (na := 1) (As := [.int v0]) (S := []) (kc := 1) (ks := 6) cwS_RX7_391 ⟨Nat.le_of_ble_eq_true rfl, Nat.le_of_ble_eq_true rfl⟩ (T_X7_isCircuit hfl fl _ _  _ h2) rfl rfl rfl (Nat.le_of_ble_eq_true rfl) dX7_requireCircuit_1 ?_
  refine E_if_ne (tgt := 18) rfl dX7_requireCircuit_4 (fun c3 => ?_) (fun c3 => ?_)
  · have hF := ite_f hF c3
    exact E_vret (Or.inr ⟨rfl, rfl⟩) rfl (by cases hF; exact hr) dX7_requireCircuit_18
  · have hF := ite_t hF c3
    exact E_throwW (ex := 3) (text := "there is no such circuit") (kc := 0) (ks := 0) rfl rfl (by cases hF; exact hr) wT210 wT211 (by decide +kernel) at_RX7_386.1 at_RX7_386.2 (by decide +kernel) ⟨Nat.le_of_ble_eq_true rfl, Nat.le_of_ble_eq_true rfl⟩ (Nat.le_of_ble_eq_true rfl) dX7_requireCircuit_7 dX7_requireCircuit_10 dX7_requireCircuit_11 dX7_requireCircuit_14 dX7_requireCircuit_17
set_option maxHeartbeats 4000000 in
set_option maxRecDepth 100000 in
theorem T_X7_setLimit {l : Launch} (hfl : l.stackTraces = false) (fl : Nat) (v0 : Nat) (v1 : Int32) (v2 : Int32) (s : Mem) (hv0 : shape v0 = some (.inl 9)) (ρ : ((Nat ⊕ Int32) × Mem)) (hF : F_X7_setLimit fl v0 v1 v2 s = some ρ) : MetX l X_X7_setLimit NF s [.ref v0, .int v1, .int v2] (rX ρ.1, NF, ρ.2) := by
  unfold F_X7_setLimit at hF
  obtain ⟨r, hr⟩ : ∃ r : Rs, r = (rX ρ.1, NF, ρ.2) := ⟨_, rfl⟩
  rw [← hr]
  refine metX_of_E rfl rfl (by decide +kernel) hfl rfl (Nat.le_of_ble_eq_true rfl) ?_
  show E l X_X7_setLimit r false NF s 2 12 0 [(0, .ref v0), (1, .int v1), (2, .int v2)] []
  refine E_iload_n (j := 1) (i := 1) (q := 1) rfl rfl dX7_setLimit_0 ?_
  obtain ⟨q1, h2, hF⟩ := bd_inv hF
  have hM5 := T_X7_requireCircuit hfl fl _ _  _ h2
  rcases xb_inv hF with ⟨e6, h4, hF⟩ | ⟨u9, h4, hF⟩
  · rw [h4] at hM5
    exact E_callSX_t (na := 1) (As := [.int v1]) (S := []) (kc := 1) (ks := 6) cwS_RX7_123 rfl rfl (by cases hF; exact hr) ⟨Nat.le_of_ble_eq_true rfl, Nat.le_of_ble_eq_true rfl⟩ hM5 rfl rfl (Nat.le_of_ble_eq_true rfl) dX7_setLimit_1
  · rw [h4] at hM5
    generalize q1.2 = s3 at hF hM5
    refine E_callSX (na := 1) (As := [.int v1]) (S := []) (kc := 1) (ks := 6) cwS_RX7_123 ⟨Nat.le_of_ble_eq_true rfl, Nat.le_of_ble_eq_true rfl⟩ hM5 rfl rfl rfl (Nat.le_of_ble_eq_true rfl) dX7_setLimit_1 ?_
    refine E_iload_n (j := 2) (i := 2) (q := 2) rfl rfl dX7_setLimit_4 ?_
    refine E_iconst (v := (0 : Int32)) rfl dX7_setLimit_5 ?_
    refine E_bipush (v := (40 : Int32)) rfl dX7_setLimit_6 ?_
    obtain ⟨q7, h8, hF⟩ := bd_inv hF
    refine E_callS (na := 3) (As := [.int v2, .int (0 : Int32), .int (40 : Int32)]) (S := []) (kc := 1) (ks := 6) cwS_RX7_56 ⟨Nat.le_of_ble_eq_true rfl, Nat.le_of_ble_eq_true rfl⟩ (T_X7_isWithin hfl fl _ _ _ _  _ h8) rfl rfl rfl (Nat.le_of_ble_eq_true rfl) dX7_setLimit_8 ?_
    refine E_if_ne (tgt := 24) rfl dX7_setLimit_11 (fun c9 => ?_) (fun c9 => ?_)
    · have hF := ite_f hF c9
      refine E_aload_n (j := 0) (i := 0) (q := 0) rfl rfl dX7_setLimit_24 ?_
      obtain ⟨r10, h11, hF⟩ := bd_inv hF
      have h11 := ldO_inv h11
      refine gf_RX7_34 rfl hv0 (shape_ord hv0).1 h11.1 dX7_setLimit_25 ?_
      refine E_aload_n (j := 0) (i := 0) (q := 0) rfl rfl dX7_setLimit_28 ?_
      obtain ⟨r12, h13, hF⟩ := bd_inv hF
      have h13 := ldO_inv h13
      refine gf_RX7_20 rfl hv0 (shape_ord hv0).1 h13.1 dX7_setLimit_29 ?_
      obtain ⟨q14, h15, hF⟩ := bd_inv hF
      refine E_callV (na := 1) (As := [.ref r12]) (S := []) (kc := 1) (ks := 6) (ci := 4) rfl rfl h11.2 (shape_ord h11.2).1 cwV_RX7_75 ⟨Nat.le_of_ble_eq_true rfl, Nat.le_of_ble_eq_true rfl⟩ (T_X2_keep hfl fl _ _ _ h11.2 h13.2 _ h15) rfl rfl rfl (Nat.le_of_ble_eq_true rfl) dX7_setLimit_32 ?_
      refine E_aload_n (j := 0) (i := 0) (q := 0) rfl rfl dX7_setLimit_35 ?_
      obtain ⟨r16, h17, hF⟩ := bd_inv hF
      have h17 := ldO_inv h17
      refine gf_RX7_20 rfl hv0 (shape_ord hv0).1 h17.1 dX7_setLimit_36 ?_
      obtain ⟨r18, h19, hF⟩ := bd_inv hF
      have h19 := ldA_inv h19
      refine gf_RX7_128 rfl h17.2 (shape_ord h17.2).1 h19.1 dX7_setLimit_39 ?_
      refine E_iload_n (j := 1) (i := 1) (q := 1) rfl rfl dX7_setLimit_42 ?_
      obtain ⟨h20, hF⟩ := gd_inv hF
      refine E_iald _ h19.2 (shape_ord h19.2).1 h20 dX7_setLimit_43 ?_
      refine E_istore_n (j := 3) (i := 3) (L' := [(3, .int (gI q14 r18.1 v1.toNatClampNeg)), (0, .ref v0), (1, .int v1), (2, .int v2)]) rfl (Nat.le_of_ble_eq_true rfl) rfl dX7_setLimit_44 ?_
      refine E_aload_n (j := 0) (i := 0) (q := 1) rfl rfl dX7_setLimit_45 ?_
      obtain ⟨r21, h22, hF⟩ := bd_inv hF
      have h22 := ldO_inv h22
      refine gf_RX7_20 rfl hv0 (shape_ord hv0).1 h22.1 dX7_setLimit_46 ?_
      obtain ⟨r23, h24, hF⟩ := bd_inv hF
      have h24 := ldA_inv h24
      refine gf_RX7_128 rfl h22.2 (shape_ord h22.2).1 h24.1 dX7_setLimit_49 ?_
      refine E_iload_n (j := 1) (i := 1) (q := 2) rfl rfl dX7_setLimit_52 ?_
      refine E_iload_n (j := 2) (i := 2) (q := 3) rfl rfl dX7_setLimit_53 ?_
      obtain ⟨h25, hF⟩ := gd_inv hF
      refine E_iast _ h24.2 (shape_ord h24.2).1 h25 dX7_setLimit_54 ?_
      obtain ⟨m26, e27, hF⟩ := nx_inv hF
      refine E_mem e27 ?_
      refine E_iload_n (j := 3) (i := 3) (q := 0) rfl rfl dX7_setLimit_55 ?_
      exact E_iret (Or.inr ⟨rfl, rfl⟩) rfl (by cases hF; exact hr) dX7_setLimit_56
    · have hF := ite_t hF c9
      exact E_throw (ex := 1) (text := "the limit is out of range") (kc := 0) (ks := 0) rfl rfl (by cases hF; exact hr) wT193 wT194 (by decide +kernel) at_RX7_64.1 at_RX7_64.2 (by decide +kernel) ⟨Nat.le_of_ble_eq_true rfl, Nat.le_of_ble_eq_true rfl⟩ (Nat.le_of_ble_eq_true rfl) dX7_setLimit_14 dX7_setLimit_17 dX7_setLimit_18 dX7_setLimit_20 dX7_setLimit_23
set_option maxHeartbeats 4000000 in
set_option maxRecDepth 100000 in
theorem T_X7_setRate {l : Launch} (hfl : l.stackTraces = false) (fl : Nat) (v0 : Nat) (v1 : Int32) (v2 : Int32) (s : Mem) (hv0 : shape v0 = some (.inl 9)) (ρ : ((Nat ⊕ Int32) × Mem)) (hF : F_X7_setRate fl v0 v1 v2 s = some ρ) : MetX l X_X7_setRate NF s [.ref v0, .int v1, .int v2] (rX ρ.1, NF, ρ.2) := by
  unfold F_X7_setRate at hF
  obtain ⟨r, hr⟩ : ∃ r : Rs, r = (rX ρ.1, NF, ρ.2) := ⟨_, rfl⟩
  rw [← hr]
  refine metX_of_E rfl rfl (by decide +kernel) hfl rfl (Nat.le_of_ble_eq_true rfl) ?_
  show E l X_X7_setRate r false NF s 2 12 0 [(0, .ref v0), (1, .int v1), (2, .int v2)] []
  refine E_aload_n (j := 0) (i := 0) (q := 0) rfl rfl dX7_setRate_0 ?_
  refine E_iload_n (j := 1) (i := 1) (q := 1) rfl rfl dX7_setRate_1 ?_
  obtain ⟨q1, h2, hF⟩ := bd_inv hF
  have hM5 := T_X7_requirePitch hfl fl _ _ _ hv0 _ h2
  rcases xb_inv hF with ⟨e6, h4, hF⟩ | ⟨u9, h4, hF⟩
  · rw [h4] at hM5
    exact E_callVX_t (na := 1) (As := [.int v1]) (S := []) (kc := 1) (ks := 6) (ci := 9) rfl rfl hv0 (shape_ord hv0).1 cwV_RX7_83 rfl rfl (by cases hF; exact hr) ⟨Nat.le_of_ble_eq_true rfl, Nat.le_of_ble_eq_true rfl⟩ hM5 rfl rfl (Nat.le_of_ble_eq_true rfl) dX7_setRate_2
  · rw [h4] at hM5
    generalize q1.2 = s3 at hF hM5
    refine E_callVX (na := 1) (As := [.int v1]) (S := []) (kc := 1) (ks := 6) (ci := 9) rfl rfl hv0 (shape_ord hv0).1 cwV_RX7_83 ⟨Nat.le_of_ble_eq_true rfl, Nat.le_of_ble_eq_true rfl⟩ hM5 rfl rfl rfl (Nat.le_of_ble_eq_true rfl) dX7_setRate_2 ?_
    refine E_iload_n (j := 2) (i := 2) (q := 2) rfl rfl dX7_setRate_5 ?_
    refine E_iconst (v := (1 : Int32)) rfl dX7_setRate_6 ?_
    refine E_bipush (v := (99 : Int32)) rfl dX7_setRate_7 ?_
    obtain ⟨q7, h8, hF⟩ := bd_inv hF
    refine E_callS (na := 3) (As := [.int v2, .int (1 : Int32), .int (99 : Int32)]) (S := []) (kc := 1) (ks := 6) cwS_RX7_56 ⟨Nat.le_of_ble_eq_true rfl, Nat.le_of_ble_eq_true rfl⟩ (T_X7_isWithin hfl fl _ _ _ _  _ h8) rfl rfl rfl (Nat.le_of_ble_eq_true rfl) dX7_setRate_9 ?_
    refine E_if_ne (tgt := 25) rfl dX7_setRate_12 (fun c9 => ?_) (fun c9 => ?_)
    · have hF := ite_f hF c9
      refine E_aload_n (j := 0) (i := 0) (q := 0) rfl rfl dX7_setRate_25 ?_
      obtain ⟨r10, h11, hF⟩ := bd_inv hF
      have h11 := ldO_inv h11
      refine gf_RX7_34 rfl hv0 (shape_ord hv0).1 h11.1 dX7_setRate_26 ?_
      refine E_aload_n (j := 0) (i := 0) (q := 0) rfl rfl dX7_setRate_29 ?_
      obtain ⟨r12, h13, hF⟩ := bd_inv hF
      have h13 := ldO_inv h13
      refine gf_RX7_20 rfl hv0 (shape_ord hv0).1 h13.1 dX7_setRate_30 ?_
      obtain ⟨q14, h15, hF⟩ := bd_inv hF
      refine E_callV (na := 1) (As := [.ref r12]) (S := []) (kc := 1) (ks := 6) (ci := 4) rfl rfl h11.2 (shape_ord h11.2).1 cwV_RX7_75 ⟨Nat.le_of_ble_eq_true rfl, Nat.le_of_ble_eq_true rfl⟩ (T_X2_keep hfl fl _ _ _ h11.2 h13.2 _ h15) rfl rfl rfl (Nat.le_of_ble_eq_true rfl) dX7_setRate_33 ?_
      refine E_aload_n (j := 0) (i := 0) (q := 0) rfl rfl dX7_setRate_36 ?_
      obtain ⟨r16, h17, hF⟩ := bd_inv hF
      have h17 := ldO_inv h17
      refine gf_RX7_20 rfl hv0 (shape_ord hv0).1 h17.1 dX7_setRate_37 ?_
      obtain ⟨r18, h19, hF⟩ := bd_inv hF
      have h19 := ldA_inv h19
      refine gf_RX7_87 rfl h17.2 (shape_ord h17.2).1 h19.1 dX7_setRate_40 ?_
      refine E_iload_n (j := 1) (i := 1) (q := 1) rfl rfl dX7_setRate_43 ?_
      obtain ⟨h20, hF⟩ := gd_inv hF
      obtain ⟨r21, h22, hF⟩ := bd_inv hF
      have h22 := ldO_inv h22
      refine E_aald _ ⟨Nat.le_of_ble_eq_true rfl, Nat.le_of_ble_eq_true rfl⟩ h19.2 (shape_ord h19.2).1 h20 h22.1 dX7_setRate_44 ?_
      refine gf_RX7_105 rfl h22.2 (shape_ord h22.2).1 dX7_setRate_45 ?_
      refine E_istore_n (j := 3) (i := 3) (L' := [(3, .int (gI q14 r21 4)), (0, .ref v0), (1, .int v1), (2, .int v2)]) rfl (Nat.le_of_ble_eq_true rfl) rfl dX7_setRate_48 ?_
      refine E_aload_n (j := 0) (i := 0) (q := 1) rfl rfl dX7_setRate_49 ?_
      obtain ⟨r23, h24, hF⟩ := bd_inv hF
      have h24 := ldO_inv h24
      refine gf_RX7_20 rfl hv0 (shape_ord hv0).1 h24.1 dX7_setRate_50 ?_
      obtain ⟨r25, h26, hF⟩ := bd_inv hF
      have h26 := ldA_inv h26
      refine gf_RX7_87 rfl h24.2 (shape_ord h24.2).1 h26.1 dX7_setRate_53 ?_
      refine E_iload_n (j := 1) (i := 1) (q := 2) rfl rfl dX7_setRate_56 ?_
      obtain ⟨h27, hF⟩ := gd_inv hF
      obtain ⟨r28, h29, hF⟩ := bd_inv hF
      have h29 := ldO_inv h29
      refine E_aald _ ⟨Nat.le_of_ble_eq_true rfl, Nat.le_of_ble_eq_true rfl⟩ h26.2 (shape_ord h26.2).1 h27 h29.1 dX7_setRate_57 ?_
      refine E_iload_n (j := 2) (i := 2) (q := 3) rfl rfl dX7_setRate_58 ?_
      refine pf_RX7_105 rfl h29.2 (shape_ord h29.2).1 dX7_setRate_59 ?_
      obtain ⟨m30, e31, hF⟩ := nx_inv hF
      refine E_mem e31 ?_
      refine E_iload_n (j := 3) (i := 3) (q := 0) rfl rfl dX7_setRate_62 ?_
      exact E_iret (Or.inr ⟨rfl, rfl⟩) rfl (by cases hF; exact hr) dX7_setRate_63
    · have hF := ite_t hF c9
      exact E_throw (ex := 1) (text := "the rate is out of range") (kc := 0) (ks := 0) rfl rfl (by cases hF; exact hr) wT193 wT194 (by decide +kernel) at_RX7_64.1 at_RX7_64.2 (by decide +kernel) ⟨Nat.le_of_ble_eq_true rfl, Nat.le_of_ble_eq_true rfl⟩ (Nat.le_of_ble_eq_true rfl) dX7_setRate_15 dX7_setRate_18 dX7_setRate_19 dX7_setRate_21 dX7_setRate_24
set_option maxHeartbeats 4000000 in
set_option maxRecDepth 100000 in
theorem T_X7_setGap {l : Launch} (hfl : l.stackTraces = false) (fl : Nat) (v0 : Nat) (v1 : Int32) (s : Mem) (hv0 : shape v0 = some (.inl 9)) (ρ : ((Nat ⊕ Int32) × Mem)) (hF : F_X7_setGap fl v0 v1 s = some ρ) : MetX l X_X7_setGap NF s [.ref v0, .int v1] (rX ρ.1, NF, ρ.2) := by
  unfold F_X7_setGap at hF
  obtain ⟨r, hr⟩ : ∃ r : Rs, r = (rX ρ.1, NF, ρ.2) := ⟨_, rfl⟩
  rw [← hr]
  refine metX_of_E rfl rfl (by decide +kernel) hfl rfl (Nat.le_of_ble_eq_true rfl) ?_
  show E l X_X7_setGap r false NF s 1 6 0 [(0, .ref v0), (1, .int v1)] []
  refine E_iload_n (j := 1) (i := 1) (q := 1) rfl rfl dX7_setGap_0 ?_
  refine E_iconst (v := (0 : Int32)) rfl dX7_setGap_1 ?_
  refine E_iconst (v := (5 : Int32)) rfl dX7_setGap_2 ?_
  obtain ⟨q1, h2, hF⟩ := bd_inv hF
  refine E_callS (na := 3) (As := [.int v1, .int (0 : Int32), .int (5 : Int32)]) (S := []) (kc := 1) (ks := 6) cwS_RX7_56 ⟨Nat.le_of_ble_eq_true rfl, Nat.le_of_ble_eq_true rfl⟩ (T_X7_isWithin hfl fl _ _ _ _  _ h2) rfl rfl rfl (Nat.le_of_ble_eq_true rfl) dX7_setGap_3 ?_
  refine E_if_ne (tgt := 19) rfl dX7_setGap_6 (fun c3 => ?_) (fun c3 => ?_)
  · have hF := ite_f hF c3
    refine E_aload_n (j := 0) (i := 0) (q := 0) rfl rfl dX7_setGap_19 ?_
    obtain ⟨r4, h5, hF⟩ := bd_inv hF
    have h5 := ldO_inv h5
    refine gf_RX7_34 rfl hv0 (shape_ord hv0).1 h5.1 dX7_setGap_20 ?_
    refine E_aload_n (j := 0) (i := 0) (q := 0) rfl rfl dX7_setGap_23 ?_
    obtain ⟨r6, h7, hF⟩ := bd_inv hF
    have h7 := ldO_inv h7
    refine gf_RX7_20 rfl hv0 (shape_ord hv0).1 h7.1 dX7_setGap_24 ?_
    obtain ⟨q8, h9, hF⟩ := bd_inv hF
    refine E_callV (na := 1) (As := [.ref r6]) (S := []) (kc := 1) (ks := 6) (ci := 4) rfl rfl h5.2 (shape_ord h5.2).1 cwV_RX7_75 ⟨Nat.le_of_ble_eq_true rfl, Nat.le_of_ble_eq_true rfl⟩ (T_X2_keep hfl fl _ _ _ h5.2 h7.2 _ h9) rfl rfl rfl (Nat.le_of_ble_eq_true rfl) dX7_setGap_27 ?_
    refine E_aload_n (j := 0) (i := 0) (q := 0) rfl rfl dX7_setGap_30 ?_
    obtain ⟨r10, h11, hF⟩ := bd_inv hF
    have h11 := ldO_inv h11
    refine gf_RX7_20 rfl hv0 (shape_ord hv0).1 h11.1 dX7_setGap_31 ?_
    refine gf_RX7_135 rfl h11.2 (shape_ord h11.2).1 dX7_setGap_34 ?_
    refine E_istore_n (j := 2) (i := 2) (L' := [(2, .int (gI q8 r10 7)), (0, .ref v0), (1, .int v1)]) rfl (Nat.le_of_ble_eq_true rfl) rfl dX7_setGap_37 ?_
    refine E_aload_n (j := 0) (i := 0) (q := 1) rfl rfl dX7_setGap_38 ?_
    obtain ⟨r12, h13, hF⟩ := bd_inv hF
    have h13 := ldO_inv h13
    refine gf_RX7_20 rfl hv0 (shape_ord hv0).1 h13.1 dX7_setGap_39 ?_
    refine E_iload_n (j := 1) (i := 1) (q := 2) rfl rfl dX7_setGap_42 ?_
    refine pf_RX7_135 rfl h13.2 (shape_ord h13.2).1 dX7_setGap_43 ?_
    obtain ⟨m14, e15, hF⟩ := nx_inv hF
    refine E_mem e15 ?_
    refine E_iload_n (j := 2) (i := 2) (q := 0) rfl rfl dX7_setGap_46 ?_
    exact E_iret (Or.inr ⟨rfl, rfl⟩) rfl (by cases hF; exact hr) dX7_setGap_47
  · have hF := ite_t hF c3
    exact E_throw (ex := 1) (text := "the gap limit is out of range") (kc := 0) (ks := 0) rfl rfl (by cases hF; exact hr) wT193 wT194 (by decide +kernel) at_RX7_64.1 at_RX7_64.2 (by decide +kernel) ⟨Nat.le_of_ble_eq_true rfl, Nat.le_of_ble_eq_true rfl⟩ (Nat.le_of_ble_eq_true rfl) dX7_setGap_9 dX7_setGap_12 dX7_setGap_13 dX7_setGap_15 dX7_setGap_18
set_option maxHeartbeats 4000000 in
set_option maxRecDepth 100000 in
theorem T_X7_isNight {l : Launch} (hfl : l.stackTraces = false) (fl : Nat) (v0 : Int32) (s : Mem) (ρ : Int32) (hF : F_X7_isNight fl v0 s = some ρ) : MetN l X_X7_isNight false NF s [.int v0] (.inr (some (.int ρ)), NF, s) := by
  unfold F_X7_isNight at hF
  obtain ⟨r, hr⟩ : ∃ r : Rs, r = (.inr (some (.int ρ)), NF, s) := ⟨_, rfl⟩
  rw [← hr]
  refine met_of_E rfl rfl (by decide +kernel) hfl rfl (Nat.le_of_ble_eq_true rfl) ?_
  show E l X_X7_isNight r false NF s 0 0 0 [(0, .int v0)] []
  refine E_iload_n (j := 0) (i := 0) (q := 0) rfl rfl dX7_isNight_0 ?_
  refine E_if_lt (tgt := 14) rfl dX7_isNight_1 (fun c1 => ?_) (fun c1 => ?_)
  · have hF := ite_t hF c1
    refine E_iconst (v := (0 : Int32)) rfl dX7_isNight_14 ?_
    exact E_zret (ty := .boolean) (Or.inl rfl) rfl rfl (by cases hF; exact hr) dX7_isNight_15
  · have hF := ite_f hF c1
    refine E_iload_n (j := 0) (i := 0) (q := 0) rfl rfl dX7_isNight_4 ?_
    refine E_bipush (v := (60 : Int32)) rfl dX7_isNight_5 ?_
    refine E_icmp_ge (tgt := 14) rfl dX7_isNight_7 (fun c2 => ?_) (fun c2 => ?_)
    · have hF := ite_t hF c2
      refine E_iconst (v := (0 : Int32)) rfl dX7_isNight_14 ?_
      exact E_zret (ty := .boolean) (Or.inl rfl) rfl rfl (by cases hF; exact hr) dX7_isNight_15
    · have hF := ite_f hF c2
      refine E_iconst (v := (1 : Int32)) rfl dX7_isNight_10 ?_
      refine E_goto (tgt := 15) rfl dX7_isNight_11 ?_
      exact E_zret (ty := .boolean) (Or.inl rfl) rfl rfl (by cases hF; exact hr) dX7_isNight_15
set_option maxHeartbeats 4000000 in
set_option maxRecDepth 100000 in
theorem T_X7_addSeason_29 {l : Launch} (hfl : l.stackTraces = false) (fl : Nat) {r : Rs} {ρ : ((Nat ⊕ Int32) × Mem)} (hr : r = (rX ρ.1, NF, ρ.2)) (s : Mem) (hF : B_X7_addSeason_29 fl s = some ρ) : E l X_X7_addSeason r false NF s 1 6 29 [] [] := by
  unfold B_X7_addSeason_29 at hF
  exact E_throw (ex := 1) (text := "a number of the season is out of range") (kc := 0) (ks := 0) rfl rfl (by cases hF; exact hr) wT193 wT194 (by decide +kernel) at_RX7_64.1 at_RX7_64.2 (by decide +kernel) ⟨Nat.le_of_ble_eq_true rfl, Nat.le_of_ble_eq_true rfl⟩ (Nat.le_of_ble_eq_true rfl) dX7_addSeason_29 dX7_addSeason_32 dX7_addSeason_33 dX7_addSeason_35 dX7_addSeason_38
set_option maxHeartbeats 4000000 in
set_option maxRecDepth 100000 in
theorem T_X7_addSeason {l : Launch} (hfl : l.stackTraces = false) (fl : Nat) (v0 : Nat) (v1 : Int32) (v2 : Int32) (v3 : Int32) (s : Mem) (hv0 : shape v0 = some (.inl 9)) (ρ : ((Nat ⊕ Int32) × Mem)) (hF : F_X7_addSeason fl v0 v1 v2 v3 s = some ρ) : MetX l X_X7_addSeason NF s [.ref v0, .int v1, .int v2, .int v3] (rX ρ.1, NF, ρ.2) := by
  unfold F_X7_addSeason at hF
  obtain ⟨r, hr⟩ : ∃ r : Rs, r = (rX ρ.1, NF, ρ.2) := ⟨_, rfl⟩
  rw [← hr]
  refine metX_of_E rfl rfl (by decide +kernel) hfl rfl (Nat.le_of_ble_eq_true rfl) ?_
  show E l X_X7_addSeason r false NF s 1 6 0 [(0, .ref v0), (1, .int v1), (2, .int v2), (3, .int v3)] []
  refine E_iload_n (j := 1) (i := 1) (q := 1) rfl rfl dX7_addSeason_0 ?_
  obtain ⟨q1, h2, hF⟩ := bd_inv hF
  refine E_callS (na := 1) (As := [.int v1]) (S := []) (kc := 1) (ks := 6) cwS_RX7_138 ⟨Nat.le_of_ble_eq_true rfl, Nat.le_of_ble_eq_true rfl⟩ (T_X7_isNight hfl fl _ _  _ h2) rfl rfl rfl (Nat.le_of_ble_eq_true rfl) dX7_addSeason_1 ?_
  refine E_if_eq (tgt := 29) rfl dX7_addSeason_4 (fun c3 => ?_) (fun c3 => ?_)
  · have hF := ite_t hF c3
    refine E_sub [] rfl ?_
    exact T_X7_addSeason_29 hfl fl hr  _  hF
  · have hF := ite_f hF c3
    refine E_iload_n (j := 2) (i := 2) (q := 2) rfl rfl dX7_addSeason_7 ?_
    obtain ⟨q4, h5, hF⟩ := bd_inv hF
    refine E_callS (na := 1) (As := [.int v2]) (S := []) (kc := 1) (ks := 6) cwS_RX7_138 ⟨Nat.le_of_ble_eq_true rfl, Nat.le_of_ble_eq_true rfl⟩ (T_X7_isNight hfl fl _ _  _ h5) rfl rfl rfl (Nat.le_of_ble_eq_true rfl) dX7_addSeason_8 ?_
    refine E_if_eq (tgt := 29) rfl dX7_addSeason_11 (fun c6 => ?_) (fun c6 => ?_)
    · have hF := ite_t hF c6
      refine E_sub [] rfl ?_
      exact T_X7_addSeason_29 hfl fl hr  _  hF
    · have hF := ite_f hF c6
      refine E_iload_n (j := 2) (i := 2) (q := 2) rfl rfl dX7_addSeason_14 ?_
      refine E_iload_n (j := 1) (i := 1) (q := 1) rfl rfl dX7_addSeason_15 ?_
      refine E_icmp_lt (tgt := 29) rfl dX7_addSeason_16 (fun c7 => ?_) (fun c7 => ?_)
      · have hF := ite_t hF c7
        refine E_sub [] rfl ?_
        exact T_X7_addSeason_29 hfl fl hr  _  hF
      · have hF := ite_f hF c7
        refine E_iload_n (j := 3) (i := 3) (q := 3) rfl rfl dX7_addSeason_19 ?_
        refine E_iconst (v := (1 : Int32)) rfl dX7_addSeason_20 ?_
        refine E_bipush (v := (14 : Int32)) rfl dX7_addSeason_21 ?_
        obtain ⟨q8, h9, hF⟩ := bd_inv hF
        refine E_callS (na := 3) (As := [.int v3, .int (1 : Int32), .int (14 : Int32)]) (S := []) (kc := 1) (ks := 6) cwS_RX7_56 ⟨Nat.le_of_ble_eq_true rfl, Nat.le_of_ble_eq_true rfl⟩ (T_X7_isWithin hfl fl _ _ _ _  _ h9) rfl rfl rfl (Nat.le_of_ble_eq_true rfl) dX7_addSeason_23 ?_
        refine E_if_ne (tgt := 39) rfl dX7_addSeason_26 (fun c10 => ?_) (fun c10 => ?_)
        · have hF := ite_f hF c10
          refine E_aload_n (j := 0) (i := 0) (q := 0) rfl rfl dX7_addSeason_39 ?_
          obtain ⟨r11, h12, hF⟩ := bd_inv hF
          have h12 := ldO_inv h12
          refine gf_RX7_20 rfl hv0 (shape_ord hv0).1 h12.1 dX7_addSeason_40 ?_
          refine gf_RX7_144 rfl h12.2 (shape_ord h12.2).1 dX7_addSeason_43 ?_
          refine E_iconst (v := (4 : Int32)) rfl dX7_addSeason_46 ?_
          refine E_icmp_lt (tgt := 60) rfl dX7_addSeason_47 (fun c13 => ?_) (fun c13 => ?_)
          · have hF := ite_t hF c13
            refine E_aload_n (j := 0) (i := 0) (q := 0) rfl rfl dX7_addSeason_60 ?_
            obtain ⟨r14, h15, hF⟩ := bd_inv hF
            have h15 := ldO_inv h15
            refine gf_RX7_34 rfl hv0 (shape_ord hv0).1 h15.1 dX7_addSeason_61 ?_
            refine E_aload_n (j := 0) (i := 0) (q := 0) rfl rfl dX7_addSeason_64 ?_
            obtain ⟨r16, h17, hF⟩ := bd_inv hF
            have h17 := ldO_inv h17
            refine gf_RX7_20 rfl hv0 (shape_ord hv0).1 h17.1 dX7_addSeason_65 ?_
            obtain ⟨q18, h19, hF⟩ := bd_inv hF
            refine E_callV (na := 1) (As := [.ref r16]) (S := []) (kc := 1) (ks := 6) (ci := 4) rfl rfl h15.2 (shape_ord h15.2).1 cwV_RX7_75 ⟨Nat.le_of_ble_eq_true rfl, Nat.le_of_ble_eq_true rfl⟩ (T_X2_keep hfl fl _ _ _ h15.2 h17.2 _ h19) rfl rfl rfl (Nat.le_of_ble_eq_true rfl) dX7_addSeason_68 ?_
            refine E_aload_n (j := 0) (i := 0) (q := 0) rfl rfl dX7_addSeason_71 ?_
            obtain ⟨r20, h21, hF⟩ := bd_inv hF
            have h21 := ldO_inv h21
            refine gf_RX7_20 rfl hv0 (shape_ord hv0).1 h21.1 dX7_addSeason_72 ?_
            refine E_iload_n (j := 1) (i := 1) (q := 1) rfl rfl dX7_addSeason_75 ?_
            refine E_iload_n (j := 2) (i := 2) (q := 2) rfl rfl dX7_addSeason_76 ?_
            refine E_iload_n (j := 3) (i := 3) (q := 3) rfl rfl dX7_addSeason_77 ?_
            obtain ⟨q22, h23, hF⟩ := bd_inv hF
            refine E_callV (na := 3) (As := [.int v1, .int v2, .int v3]) (S := []) (kc := 1) (ks := 6) (ci := 3) rfl rfl h21.2 (shape_ord h21.2).1 cwV_RX7_149 ⟨Nat.le_of_ble_eq_true rfl, Nat.le_of_ble_eq_true rfl⟩ (T_X1_makeSeason hfl fl _ _ _ _ _ h21.2 _ h23) rfl rfl rfl (Nat.le_of_ble_eq_true rfl) dX7_addSeason_78 ?_
            exact E_iret (Or.inr ⟨rfl, rfl⟩) rfl (by cases hF; exact hr) dX7_addSeason_81
          · have hF := ite_f hF c13
            exact E_throw (ex := 2) (text := "all seasons are kept") (kc := 0) (ks := 0) rfl rfl (by cases hF; exact hr) wT207 wT208 (by decide +kernel) at_RX7_74.1 at_RX7_74.2 (by decide +kernel) ⟨Nat.le_of_ble_eq_true rfl, Nat.le_of_ble_eq_true rfl⟩ (Nat.le_of_ble_eq_true rfl) dX7_addSeason_50 dX7_addSeason_53 dX7_addSeason_54 dX7_addSeason_56 dX7_addSeason_59
        · have hF := ite_t hF c10
          refine E_sub [] rfl ?_
          exact T_X7_addSeason_29 hfl fl hr  _  hF
set_option maxHeartbeats 4000000 in
set_option maxRecDepth 100000 in
theorem T_X7_requireSeason {l : Launch} (hfl : l.stackTraces = false) (fl : Nat) (v0 : Nat) (v1 : Int32) (s : Mem) (hv0 : shape v0 = some (.inl 9)) (ρ : ((Nat ⊕ Unit) × Mem)) (hF : F_X7_requireSeason fl v0 v1 s = some ρ) : MetX l X_X7_requireSeason NF s [.ref v0, .int v1] (rXv ρ.1, NF, ρ.2) := by
  unfold F_X7_requireSeason at hF
  obtain ⟨r, hr⟩ : ∃ r : Rs, r = (rXv ρ.1, NF, ρ.2) := ⟨_, rfl⟩
  rw [← hr]
  refine metX_of_E rfl rfl (by decide +kernel) hfl rfl (Nat.le_of_ble_eq_true rfl) ?_
  show E l X_X7_requireSeason r false NF s 1 6 0 [(0, .ref v0), (1, .int v1)] []
  refine E_iload_n (j := 1) (i := 1) (q := 1) rfl rfl dX7_requireSeason_0 ?_
  refine E_iconst (v := (0 : Int32)) rfl dX7_requireSeason_1 ?_
  refine E_aload_n (j := 0) (i := 0) (q := 0) rfl rfl dX7_requireSeason_2 ?_
  obtain ⟨r1, h2, hF⟩ := bd_inv hF
  have h2 := ldO_inv h2
  refine gf_RX7_20 rfl hv0 (shape_ord hv0).1 h2.1 dX7_requireSeason_3 ?_
  refine gf_RX7_144 rfl h2.2 (shape_ord h2.2).1 dX7_requireSeason_6 ?_
  refine E_iconst (v := (1 : Int32)) rfl dX7_requireSeason_9 ?_
  refine E_isub dX7_requireSeason_10 ?_
  obtain ⟨q3, h4, hF⟩ := bd_inv hF
  refine E_callS (na := 3) (As := [.int v1, .int (0 : Int32), .int ((gI s r1 5) - (1 : Int32))]) (S := []) (kc := 1) (ks := 6) cwS_RX7_56 ⟨Nat.le_of_ble_eq_true rfl, Nat.le_of_ble_eq_true rfl⟩ (T_X7_isWithin hfl fl _ _ _ _  _ h4) rfl rfl rfl (Nat.le_of_ble_eq_true rfl) dX7_requireSeason_11 ?_
  refine E_if_ne (tgt := 28) rfl dX7_requireSeason_14 (fun c5 => ?_) (fun c5 => ?_)
  · have hF := ite_f hF c5
    exact E_vret (Or.inr ⟨rfl, rfl⟩) rfl (by cases hF; exact hr) dX7_requireSeason_28
  · have hF := ite_t hF c5
    exact E_throwW (ex := 3) (text := "there is no such season") (kc := 0) (ks := 0) rfl rfl (by cases hF; exact hr) wT210 wT211 (by decide +kernel) at_RX7_386.1 at_RX7_386.2 (by decide +kernel) ⟨Nat.le_of_ble_eq_true rfl, Nat.le_of_ble_eq_true rfl⟩ (Nat.le_of_ble_eq_true rfl) dX7_requireSeason_17 dX7_requireSeason_20 dX7_requireSeason_21 dX7_requireSeason_24 dX7_requireSeason_27
