set_option maxHeartbeats 4000000 in
set_option maxRecDepth 100000 in
theorem T_X0_add {l : Launch} (hfl : l.stackTraces = false) (fl : Nat) (v0 : Nat) (v1 : Int32) (s : Mem) (hv0 : shape v0 = some (.inl 2)) (ρ : (Int32 × Mem)) (hF : F_X0_add fl v0 v1 s = some ρ) : MetN l X_X0_add false NF s [.ref v0, .int v1] (.inr (some (.int ρ.1)), NF, ρ.2) := by
  unfold F_X0_add at hF
  obtain ⟨r, hr⟩ : ∃ r : Rs, r = (.inr (some (.int ρ.1)), NF, ρ.2) := ⟨_, rfl⟩
  rw [← hr]
  refine met_of_E rfl rfl (by decide +kernel) hfl rfl (Nat.le_of_ble_eq_true rfl) ?_
  show E l X_X0_add r false NF s 0 0 0 [(0, .ref v0), (1, .int v1)] []
  refine E_aload_n (j := 0) (i := 0) (q := 0) rfl rfl dX0_add_0 ?_
  refine gf_RX0_23 rfl hv0 (shape_ord hv0).1 dX0_add_1 ?_
  refine E_aload_n (j := 0) (i := 0) (q := 0) rfl rfl dX0_add_4 ?_
  obtain ⟨r1, h2, hF⟩ := bd_inv hF
  have h2 := ldA_inv h2
  refine gf_RX0_9 rfl hv0 (shape_ord hv0).1 h2.1 dX0_add_5 ?_
  refine E_alen _ (Nat.le_of_ble_eq_true rfl) h2.2 (shape_ord h2.2).1 dX0_add_8 ?_
  refine E_icmp_lt (tgt := 14) rfl dX0_add_9 (fun c3 => ?_) (fun c3 => ?_)
  · have hF := ite_t hF c3
    refine E_aload_n (j := 0) (i := 0) (q := 0) rfl rfl dX0_add_14 ?_
    obtain ⟨r4, h5, hF⟩ := bd_inv hF
    have h5 := ldA_inv h5
    refine gf_RX0_9 rfl hv0 (shape_ord hv0).1 h5.1 dX0_add_15 ?_
    refine E_aload_n (j := 0) (i := 0) (q := 0) rfl rfl dX0_add_18 ?_
    refine gf_RX0_23 rfl hv0 (shape_ord hv0).1 dX0_add_19 ?_
    refine E_iload_n (j := 1) (i := 1) (q := 1) rfl rfl dX0_add_22 ?_
    obtain ⟨h6, hF⟩ := gd_inv hF
    refine E_cast _ h5.2 (shape_ord h5.2).1 h6 dX0_add_23 ?_
    obtain ⟨m7, e8, hF⟩ := nx_inv hF
    refine E_mem e8 ?_
    refine E_aload_n (j := 0) (i := 0) (q := 0) rfl rfl dX0_add_24 ?_
    refine E_dup rfl dX0_add_25 ?_
    refine gf_RX0_23 rfl hv0 (shape_ord hv0).1 dX0_add_26 ?_
    refine E_iconst (v := (1 : Int32)) rfl dX0_add_29 ?_
    refine E_iadd dX0_add_30 ?_
    refine pf_RX0_23 rfl hv0 (shape_ord hv0).1 dX0_add_31 ?_
    obtain ⟨m9, e10, hF⟩ := nx_inv hF
    refine E_mem e10 ?_
    refine E_iconst (v := (1 : Int32)) rfl dX0_add_34 ?_
    exact E_zret (ty := .boolean) (Or.inl rfl) rfl rfl (by cases hF; exact hr) dX0_add_35
  · have hF := ite_f hF c3
    refine E_iconst (v := (0 : Int32)) rfl dX0_add_12 ?_
    exact E_zret (ty := .boolean) (Or.inl rfl) rfl rfl (by cases hF; exact hr) dX0_add_13
set_option maxHeartbeats 4000000 in
set_option maxRecDepth 100000 in
theorem T_X0_readSign {l : Launch} (hfl : l.stackTraces = false) (fl : Nat) (v0 : Nat) (v1 : Int32) (s : Mem) (hv0 : shape v0 = some (.inl 2)) (ρ : (Int32 × Mem)) (hF : F_X0_readSign fl v0 v1 s = some ρ) : MetN l X_X0_readSign false NF s [.ref v0, .int v1] (.inr (some (.int ρ.1)), NF, ρ.2) := by
  unfold F_X0_readSign at hF
  obtain ⟨r, hr⟩ : ∃ r : Rs, r = (.inr (some (.int ρ.1)), NF, ρ.2) := ⟨_, rfl⟩
  rw [← hr]
  refine met_of_E rfl rfl (by decide +kernel) hfl rfl (Nat.le_of_ble_eq_true rfl) ?_
  show E l X_X0_readSign r false NF s 0 0 0 [(0, .ref v0), (1, .int v1)] []
  refine E_aload_n (j := 0) (i := 0) (q := 0) rfl rfl dX0_readSign_0 ?_
  refine gf_RX0_26 rfl hv0 (shape_ord hv0).1 dX0_readSign_1 ?_
  refine E_aload_n (j := 0) (i := 0) (q := 0) rfl rfl dX0_readSign_4 ?_
  refine gf_RX0_23 rfl hv0 (shape_ord hv0).1 dX0_readSign_5 ?_
  refine E_icmp_ge (tgt := 36) rfl dX0_readSign_8 (fun c1 => ?_) (fun c1 => ?_)
  · have hF := ite_t hF c1
    refine E_iconst (v := (0 : Int32)) rfl dX0_readSign_36 ?_
    exact E_zret (ty := .boolean) (Or.inl rfl) rfl rfl (by cases hF; exact hr) dX0_readSign_37
  · have hF := ite_f hF c1
    refine E_aload_n (j := 0) (i := 0) (q := 0) rfl rfl dX0_readSign_11 ?_
    refine gf_RX0_26 rfl hv0 (shape_ord hv0).1 dX0_readSign_12 ?_
    refine E_aload_n (j := 0) (i := 0) (q := 0) rfl rfl dX0_readSign_15 ?_
    obtain ⟨r2, h3, hF⟩ := bd_inv hF
    have h3 := ldA_inv h3
    refine gf_RX0_9 rfl hv0 (shape_ord hv0).1 h3.1 dX0_readSign_16 ?_
    refine E_alen _ (Nat.le_of_ble_eq_true rfl) h3.2 (shape_ord h3.2).1 dX0_readSign_19 ?_
    refine E_icmp_ge (tgt := 36) rfl dX0_readSign_20 (fun c4 => ?_) (fun c4 => ?_)
    · have hF := ite_t hF c4
      refine E_iconst (v := (0 : Int32)) rfl dX0_readSign_36 ?_
      exact E_zret (ty := .boolean) (Or.inl rfl) rfl rfl (by cases hF; exact hr) dX0_readSign_37
    · have hF := ite_f hF c4
      refine E_aload_n (j := 0) (i := 0) (q := 0) rfl rfl dX0_readSign_23 ?_
      obtain ⟨r5, h6, hF⟩ := bd_inv hF
      have h6 := ldA_inv h6
      refine gf_RX0_9 rfl hv0 (shape_ord hv0).1 h6.1 dX0_readSign_24 ?_
      refine E_aload_n (j := 0) (i := 0) (q := 0) rfl rfl dX0_readSign_27 ?_
      refine gf_RX0_26 rfl hv0 (shape_ord hv0).1 dX0_readSign_28 ?_
      obtain ⟨h7, hF⟩ := gd_inv hF
      refine E_cald _ h6.2 (shape_ord h6.2).1 h7 dX0_readSign_31 ?_
      refine E_iload_n (j := 1) (i := 1) (q := 1) rfl rfl dX0_readSign_32 ?_
      refine E_icmp_eq (tgt := 38) rfl dX0_readSign_33 (fun c8 => ?_) (fun c8 => ?_)
      · have hF := ite_t hF c8
        refine E_aload_n (j := 0) (i := 0) (q := 0) rfl rfl dX0_readSign_38 ?_
        refine E_dup rfl dX0_readSign_39 ?_
        refine gf_RX0_26 rfl hv0 (shape_ord hv0).1 dX0_readSign_40 ?_
        refine E_iconst (v := (1 : Int32)) rfl dX0_readSign_43 ?_
        refine E_iadd dX0_readSign_44 ?_
        refine pf_RX0_26 rfl hv0 (shape_ord hv0).1 dX0_readSign_45 ?_
        obtain ⟨m9, e10, hF⟩ := nx_inv hF
        refine E_mem e10 ?_
        refine E_iconst (v := (1 : Int32)) rfl dX0_readSign_48 ?_
        exact E_zret (ty := .boolean) (Or.inl rfl) rfl rfl (by cases hF; exact hr) dX0_readSign_49
      · have hF := ite_f hF c8
        refine E_iconst (v := (0 : Int32)) rfl dX0_readSign_36 ?_
        exact E_zret (ty := .boolean) (Or.inl rfl) rfl rfl (by cases hF; exact hr) dX0_readSign_37
set_option maxHeartbeats 4000000 in
set_option maxRecDepth 100000 in
theorem T_X0_readKind {l : Launch} (hfl : l.stackTraces = false) (fl : Nat) (v0 : Nat) (s : Mem) (hv0 : shape v0 = some (.inl 2)) (ρ : (Int32 × Mem)) (hF : F_X0_readKind fl v0 s = some ρ) : MetN l X_X0_readKind false NF s [.ref v0] (.inr (some (.int ρ.1)), NF, ρ.2) := by
  unfold F_X0_readKind at hF
  obtain ⟨r, hr⟩ : ∃ r : Rs, r = (.inr (some (.int ρ.1)), NF, ρ.2) := ⟨_, rfl⟩
  rw [← hr]
  refine met_of_E rfl rfl (by decide +kernel) hfl rfl (Nat.le_of_ble_eq_true rfl) ?_
  show E l X_X0_readKind r false NF s 0 0 0 [(0, .ref v0)] []
  refine E_aload_n (j := 0) (i := 0) (q := 0) rfl rfl dX0_readKind_0 ?_
  refine E_iconst (v := (0 : Int32)) rfl dX0_readKind_1 ?_
  refine pf_RX0_47 rfl hv0 (shape_ord hv0).1 dX0_readKind_2 ?_
  obtain ⟨m1, e2, hF⟩ := nx_inv hF
  refine E_mem e2 ?_
  refine E_aload_n (j := 0) (i := 0) (q := 0) rfl rfl dX0_readKind_5 ?_
  refine E_bipush (v := (116 : Int32)) rfl dX0_readKind_6 ?_
  obtain ⟨q3, h4, hF⟩ := bd_inv hF
  refine E_callV (na := 1) (As := [.int (116 : Int32)]) (S := []) (kc := 0) (ks := 0) (ci := 2) rfl rfl hv0 (shape_ord hv0).1 cwV_RX0_40 ⟨Nat.le_of_ble_eq_true rfl, Nat.le_of_ble_eq_true rfl⟩ (T_X0_readSign hfl fl _ _ _ hv0 _ h4) rfl rfl rfl (Nat.le_of_ble_eq_true rfl) dX0_readKind_8 ?_
  refine E_if_eq (tgt := 16) rfl dX0_readKind_11 (fun c5 => ?_) (fun c5 => ?_)
  · have hF := ite_t hF c5
    refine E_aload_n (j := 0) (i := 0) (q := 0) rfl rfl dX0_readKind_16 ?_
    refine E_iconst (v := (1 : Int32)) rfl dX0_readKind_17 ?_
    refine pf_RX0_47 rfl hv0 (shape_ord hv0).1 dX0_readKind_18 ?_
    obtain ⟨m6, e7, hF⟩ := nx_inv hF
    refine E_mem e7 ?_
    refine E_aload_n (j := 0) (i := 0) (q := 0) rfl rfl dX0_readKind_21 ?_
    refine E_bipush (v := (99 : Int32)) rfl dX0_readKind_22 ?_
    obtain ⟨q8, h9, hF⟩ := bd_inv hF
    refine E_callV (na := 1) (As := [.int (99 : Int32)]) (S := []) (kc := 0) (ks := 0) (ci := 2) rfl rfl hv0 (shape_ord hv0).1 cwV_RX0_40 ⟨Nat.le_of_ble_eq_true rfl, Nat.le_of_ble_eq_true rfl⟩ (T_X0_readSign hfl fl _ _ _ hv0 _ h9) rfl rfl rfl (Nat.le_of_ble_eq_true rfl) dX0_readKind_24 ?_
    refine E_if_eq (tgt := 32) rfl dX0_readKind_27 (fun c10 => ?_) (fun c10 => ?_)
    · have hF := ite_t hF c10
      refine E_aload_n (j := 0) (i := 0) (q := 0) rfl rfl dX0_readKind_32 ?_
      refine E_iconst (v := (2 : Int32)) rfl dX0_readKind_33 ?_
      refine pf_RX0_47 rfl hv0 (shape_ord hv0).1 dX0_readKind_34 ?_
      obtain ⟨m11, e12, hF⟩ := nx_inv hF
      refine E_mem e12 ?_
      refine E_aload_n (j := 0) (i := 0) (q := 0) rfl rfl dX0_readKind_37 ?_
      refine E_bipush (v := (109 : Int32)) rfl dX0_readKind_38 ?_
      obtain ⟨q13, h14, hF⟩ := bd_inv hF
      refine E_callV (na := 1) (As := [.int (109 : Int32)]) (S := []) (kc := 0) (ks := 0) (ci := 2) rfl rfl hv0 (shape_ord hv0).1 cwV_RX0_40 ⟨Nat.le_of_ble_eq_true rfl, Nat.le_of_ble_eq_true rfl⟩ (T_X0_readSign hfl fl _ _ _ hv0 _ h14) rfl rfl rfl (Nat.le_of_ble_eq_true rfl) dX0_readKind_40 ?_
      obtain ⟨h15, hF⟩ := gd_inv hF
      exact E_zret (ty := .boolean) (Or.inl rfl) rfl (nar_b h15) (by cases hF; exact hr) dX0_readKind_43
    · have hF := ite_f hF c10
      refine E_iconst (v := (1 : Int32)) rfl dX0_readKind_30 ?_
      exact E_zret (ty := .boolean) (Or.inl rfl) rfl rfl (by cases hF; exact hr) dX0_readKind_31
  · have hF := ite_f hF c5
    refine E_iconst (v := (1 : Int32)) rfl dX0_readKind_14 ?_
    exact E_zret (ty := .boolean) (Or.inl rfl) rfl rfl (by cases hF; exact hr) dX0_readKind_15
set_option maxHeartbeats 4000000 in
set_option maxRecDepth 100000 in
theorem T_X0_readDigit {l : Launch} (hfl : l.stackTraces = false) (fl : Nat) (v0 : Nat) (s : Mem) (hv0 : shape v0 = some (.inl 2)) (ρ : (Int32 × Mem)) (hF : F_X0_readDigit fl v0 s = some ρ) : MetN l X_X0_readDigit false NF s [.ref v0] (.inr (some (.int ρ.1)), NF, ρ.2) := by
  unfold F_X0_readDigit at hF
  obtain ⟨r, hr⟩ : ∃ r : Rs, r = (.inr (some (.int ρ.1)), NF, ρ.2) := ⟨_, rfl⟩
  rw [← hr]
  refine met_of_E rfl rfl (by decide +kernel) hfl rfl (Nat.le_of_ble_eq_true rfl) ?_
  show E l X_X0_readDigit r false NF s 0 0 0 [(0, .ref v0)] []
  refine E_aload_n (j := 0) (i := 0) (q := 0) rfl rfl dX0_readDigit_0 ?_
  refine gf_RX0_26 rfl hv0 (shape_ord hv0).1 dX0_readDigit_1 ?_
  refine E_aload_n (j := 0) (i := 0) (q := 0) rfl rfl dX0_readDigit_4 ?_
  refine gf_RX0_23 rfl hv0 (shape_ord hv0).1 dX0_readDigit_5 ?_
  refine E_icmp_ge (tgt := 51) rfl dX0_readDigit_8 (fun c1 => ?_) (fun c1 => ?_)
  · have hF := ite_t hF c1
    refine E_iconst (v := (-1 : Int32)) rfl dX0_readDigit_51 ?_
    exact E_iret (Or.inl rfl) rfl (by cases hF; exact hr) dX0_readDigit_52
  · have hF := ite_f hF c1
    refine E_aload_n (j := 0) (i := 0) (q := 0) rfl rfl dX0_readDigit_11 ?_
    refine gf_RX0_26 rfl hv0 (shape_ord hv0).1 dX0_readDigit_12 ?_
    refine E_aload_n (j := 0) (i := 0) (q := 0) rfl rfl dX0_readDigit_15 ?_
    obtain ⟨r2, h3, hF⟩ := bd_inv hF
    have h3 := ldA_inv h3
    refine gf_RX0_9 rfl hv0 (shape_ord hv0).1 h3.1 dX0_readDigit_16 ?_
    refine E_alen _ (Nat.le_of_ble_eq_true rfl) h3.2 (shape_ord h3.2).1 dX0_readDigit_19 ?_
    refine E_icmp_ge (tgt := 51) rfl dX0_readDigit_20 (fun c4 => ?_) (fun c4 => ?_)
    · have hF := ite_t hF c4
      refine E_iconst (v := (-1 : Int32)) rfl dX0_readDigit_51 ?_
      exact E_iret (Or.inl rfl) rfl (by cases hF; exact hr) dX0_readDigit_52
    · have hF := ite_f hF c4
      refine E_aload_n (j := 0) (i := 0) (q := 0) rfl rfl dX0_readDigit_23 ?_
      obtain ⟨r5, h6, hF⟩ := bd_inv hF
      have h6 := ldA_inv h6
      refine gf_RX0_9 rfl hv0 (shape_ord hv0).1 h6.1 dX0_readDigit_24 ?_
      refine E_aload_n (j := 0) (i := 0) (q := 0) rfl rfl dX0_readDigit_27 ?_
      refine gf_RX0_26 rfl hv0 (shape_ord hv0).1 dX0_readDigit_28 ?_
      obtain ⟨h7, hF⟩ := gd_inv hF
      refine E_cald _ h6.2 (shape_ord h6.2).1 h7 dX0_readDigit_31 ?_
      refine E_bipush (v := (48 : Int32)) rfl dX0_readDigit_32 ?_
      refine E_icmp_lt (tgt := 51) rfl dX0_readDigit_34 (fun c8 => ?_) (fun c8 => ?_)
      · have hF := ite_t hF c8
        refine E_iconst (v := (-1 : Int32)) rfl dX0_readDigit_51 ?_
        exact E_iret (Or.inl rfl) rfl (by cases hF; exact hr) dX0_readDigit_52
      · have hF := ite_f hF c8
        refine E_aload_n (j := 0) (i := 0) (q := 0) rfl rfl dX0_readDigit_37 ?_
        obtain ⟨r9, h10, hF⟩ := bd_inv hF
        have h10 := ldA_inv h10
        refine gf_RX0_9 rfl hv0 (shape_ord hv0).1 h10.1 dX0_readDigit_38 ?_
        refine E_aload_n (j := 0) (i := 0) (q := 0) rfl rfl dX0_readDigit_41 ?_
        refine gf_RX0_26 rfl hv0 (shape_ord hv0).1 dX0_readDigit_42 ?_
        obtain ⟨h11, hF⟩ := gd_inv hF
        refine E_cald _ h10.2 (shape_ord h10.2).1 h11 dX0_readDigit_45 ?_
        refine E_bipush (v := (57 : Int32)) rfl dX0_readDigit_46 ?_
        refine E_icmp_le (tgt := 53) rfl dX0_readDigit_48 (fun c12 => ?_) (fun c12 => ?_)
        · have hF := ite_t hF c12
          refine E_aload_n (j := 0) (i := 0) (q := 0) rfl rfl dX0_readDigit_53 ?_
          refine E_dup rfl dX0_readDigit_54 ?_
          refine gf_RX0_26 rfl hv0 (shape_ord hv0).1 dX0_readDigit_55 ?_
          refine E_iconst (v := (1 : Int32)) rfl dX0_readDigit_58 ?_
          refine E_iadd dX0_readDigit_59 ?_
          refine pf_RX0_26 rfl hv0 (shape_ord hv0).1 dX0_readDigit_60 ?_
          obtain ⟨m13, e14, hF⟩ := nx_inv hF
          refine E_mem e14 ?_
          refine E_aload_n (j := 0) (i := 0) (q := 0) rfl rfl dX0_readDigit_63 ?_
          obtain ⟨r15, h16, hF⟩ := bd_inv hF
          have h16 := ldA_inv h16
          refine gf_RX0_9 rfl hv0 (shape_ord hv0).1 h16.1 dX0_readDigit_64 ?_
          refine E_aload_n (j := 0) (i := 0) (q := 0) rfl rfl dX0_readDigit_67 ?_
          refine gf_RX0_26 rfl hv0 (shape_ord hv0).1 dX0_readDigit_68 ?_
          refine E_iconst (v := (1 : Int32)) rfl dX0_readDigit_71 ?_
          refine E_isub dX0_readDigit_72 ?_
          obtain ⟨h17, hF⟩ := gd_inv hF
          refine E_cald _ h16.2 (shape_ord h16.2).1 h17 dX0_readDigit_73 ?_
          refine E_bipush (v := (48 : Int32)) rfl dX0_readDigit_74 ?_
          refine E_isub dX0_readDigit_76 ?_
          exact E_iret (Or.inl rfl) rfl (by cases hF; exact hr) dX0_readDigit_77
        · have hF := ite_f hF c12
          refine E_iconst (v := (-1 : Int32)) rfl dX0_readDigit_51 ?_
          exact E_iret (Or.inl rfl) rfl (by cases hF; exact hr) dX0_readDigit_52
set_option maxHeartbeats 4000000 in
set_option maxRecDepth 100000 in
theorem T_X0_readNumber_23 {l : Launch} (hfl : l.stackTraces = false) (fl : Nat) {r : Rs} {ρ : (Int32 × Mem)} (hr : r = (.inr (some (.int ρ.1)), NF, ρ.2)) (v0 : Nat) (v1 : Int32) (v2 : Int32) (w0 : Int32) (s : Mem) (hv0 : shape v0 = some (.inl 2)) (hF : B_X0_readNumber_23 fl v0 v1 v2 w0 s = some ρ) : E l X_X0_readNumber r false NF s 0 0 23 [(0, .ref v0), (1, .int v1), (2, .int v2)] [.int w0] := by
  unfold B_X0_readNumber_23 at hF
  refine E_istore_n (j := 3) (i := 3) (L' := [(3, .int w0), (0, .ref v0), (1, .int v1), (2, .int v2)]) rfl (Nat.le_of_ble_eq_true rfl) rfl dX0_readNumber_23 ?_
  refine E_aload_n (j := 0) (i := 0) (q := 1) rfl rfl dX0_readNumber_24 ?_
  obtain ⟨r1, h2, hF⟩ := bd_inv hF
  have h2 := ldA_inv h2
  refine gf_RX0_19 rfl hv0 (shape_ord hv0).1 h2.1 dX0_readNumber_25 ?_
  refine E_iload_n (j := 1) (i := 1) (q := 2) rfl rfl dX0_readNumber_28 ?_
  refine E_iload_n (j := 3) (i := 3) (q := 0) rfl rfl dX0_readNumber_29 ?_
  refine E_if_ge (tgt := 37) rfl dX0_readNumber_30 (fun c3 => ?_) (fun c3 => ?_)
  · have hF := ite_t hF c3
    refine E_bipush (v := (10 : Int32)) rfl dX0_readNumber_37 ?_
    refine E_iload_n (j := 2) (i := 2) (q := 3) rfl rfl dX0_readNumber_39 ?_
    refine E_imul dX0_readNumber_40 ?_
    refine E_iload_n (j := 3) (i := 3) (q := 0) rfl rfl dX0_readNumber_41 ?_
    refine E_iadd dX0_readNumber_42 ?_
    obtain ⟨h4, hF⟩ := gd_inv hF
    refine E_iast _ h2.2 (shape_ord h2.2).1 h4 dX0_readNumber_43 ?_
    obtain ⟨m5, e6, hF⟩ := nx_inv hF
    refine E_mem e6 ?_
    refine E_iconst (v := (1 : Int32)) rfl dX0_readNumber_44 ?_
    exact E_zret (ty := .boolean) (Or.inl rfl) rfl rfl (by cases hF; exact hr) dX0_readNumber_45
  · have hF := ite_f hF c3
    refine E_iload_n (j := 2) (i := 2) (q := 3) rfl rfl dX0_readNumber_33 ?_
    refine E_goto (tgt := 43) rfl dX0_readNumber_34 ?_
    obtain ⟨h7, hF⟩ := gd_inv hF
    refine E_iast _ h2.2 (shape_ord h2.2).1 h7 dX0_readNumber_43 ?_
    obtain ⟨m8, e9, hF⟩ := nx_inv hF
    refine E_mem e9 ?_
    refine E_iconst (v := (1 : Int32)) rfl dX0_readNumber_44 ?_
    exact E_zret (ty := .boolean) (Or.inl rfl) rfl rfl (by cases hF; exact hr) dX0_readNumber_45
set_option maxHeartbeats 4000000 in
set_option maxRecDepth 100000 in
theorem T_X0_readNumber {l : Launch} (hfl : l.stackTraces = false) (fl : Nat) (v0 : Nat) (v1 : Int32) (s : Mem) (hv0 : shape v0 = some (.inl 2)) (ρ : (Int32 × Mem)) (hF : F_X0_readNumber fl v0 v1 s = some ρ) : MetN l X_X0_readNumber false NF s [.ref v0, .int v1] (.inr (some (.int ρ.1)), NF, ρ.2) := by
  unfold F_X0_readNumber at hF
  obtain ⟨r, hr⟩ : ∃ r : Rs, r = (.inr (some (.int ρ.1)), NF, ρ.2) := ⟨_, rfl⟩
  rw [← hr]
  refine met_of_E rfl rfl (by decide +kernel) hfl rfl (Nat.le_of_ble_eq_true rfl) ?_
  show E l X_X0_readNumber r false NF s 0 0 0 [(0, .ref v0), (1, .int v1)] []
  refine E_aload_n (j := 0) (i := 0) (q := 0) rfl rfl dX0_readNumber_0 ?_
  obtain ⟨q10, h11, hF⟩ := bd_inv hF
  refine E_callV (na := 0) (As := []) (S := []) (kc := 0) (ks := 0) (ci := 2) rfl rfl hv0 (shape_ord hv0).1 cwV_RX0_50 ⟨Nat.le_of_ble_eq_true rfl, Nat.le_of_ble_eq_true rfl⟩ (T_X0_readDigit hfl fl _ _ hv0 _ h11) rfl rfl rfl (Nat.le_of_ble_eq_true rfl) dX0_readNumber_1 ?_
  refine E_istore_n (j := 2) (i := 2) (L' := [(2, .int q10.1), (0, .ref v0), (1, .int v1)]) rfl (Nat.le_of_ble_eq_true rfl) rfl dX0_readNumber_4 ?_
  refine E_iload_n (j := 2) (i := 2) (q := 0) rfl rfl dX0_readNumber_5 ?_
  refine E_if_ge (tgt := 11) rfl dX0_readNumber_6 (fun c12 => ?_) (fun c12 => ?_)
  · have hF := ite_t hF c12
    refine E_iload_n (j := 2) (i := 2) (q := 0) rfl rfl dX0_readNumber_11 ?_
    refine E_if_le (tgt := 22) rfl dX0_readNumber_12 (fun c13 => ?_) (fun c13 => ?_)
    · have hF := ite_t hF c13
      refine E_iconst (v := (-1 : Int32)) rfl dX0_readNumber_22 ?_
      refine E_sub [1, 2, 0] rfl ?_
      exact T_X0_readNumber_23 hfl fl hr  _ _ _ _ _ hv0 hF
    · have hF := ite_f hF c13
      refine E_aload_n (j := 0) (i := 0) (q := 1) rfl rfl dX0_readNumber_15 ?_
      obtain ⟨q14, h15, hF⟩ := bd_inv hF
      refine E_callV (na := 0) (As := []) (S := []) (kc := 0) (ks := 0) (ci := 2) rfl rfl hv0 (shape_ord hv0).1 cwV_RX0_50 ⟨Nat.le_of_ble_eq_true rfl, Nat.le_of_ble_eq_true rfl⟩ (T_X0_readDigit hfl fl _ _ hv0 _ h15) rfl rfl rfl (Nat.le_of_ble_eq_true rfl) dX0_readNumber_16 ?_
      refine E_goto (tgt := 23) rfl dX0_readNumber_19 ?_
      refine E_sub [1, 2, 0] rfl ?_
      exact T_X0_readNumber_23 hfl fl hr  _ _ _ _ _ hv0 hF
  · have hF := ite_f hF c12
    refine E_iconst (v := (0 : Int32)) rfl dX0_readNumber_9 ?_
    exact E_zret (ty := .boolean) (Or.inl rfl) rfl rfl (by cases hF; exact hr) dX0_readNumber_10
set_option maxHeartbeats 4000000 in
set_option maxRecDepth 100000 in
theorem T_X0_readPower {l : Launch} (hfl : l.stackTraces = false) (fl : Nat) (v0 : Nat) (s : Mem) (hv0 : shape v0 = some (.inl 2)) (ρ : (Int32 × Mem)) (hF : F_X0_readPower fl v0 s = some ρ) : MetN l X_X0_readPower false NF s [.ref v0] (.inr (some (.int ρ.1)), NF, ρ.2) := by
  unfold F_X0_readPower at hF
  obtain ⟨r, hr⟩ : ∃ r : Rs, r = (.inr (some (.int ρ.1)), NF, ρ.2) := ⟨_, rfl⟩
  rw [← hr]
  refine met_of_E rfl rfl (by decide +kernel) hfl rfl (Nat.le_of_ble_eq_true rfl) ?_
  show E l X_X0_readPower r false NF s 0 0 0 [(0, .ref v0)] []
  refine E_aload_n (j := 0) (i := 0) (q := 0) rfl rfl dX0_readPower_0 ?_
  obtain ⟨r1, h2, hF⟩ := bd_inv hF
  have h2 := ldA_inv h2
  refine gf_RX0_19 rfl hv0 (shape_ord hv0).1 h2.1 dX0_readPower_1 ?_
  refine E_iconst (v := (4 : Int32)) rfl dX0_readPower_4 ?_
  refine E_iconst (v := (0 : Int32)) rfl dX0_readPower_5 ?_
  obtain ⟨h3, hF⟩ := gd_inv hF
  refine E_iast _ h2.2 (shape_ord h2.2).1 h3 dX0_readPower_6 ?_
  obtain ⟨m4, e5, hF⟩ := nx_inv hF
  refine E_mem e5 ?_
  refine E_aload_n (j := 0) (i := 0) (q := 0) rfl rfl dX0_readPower_7 ?_
  refine gf_RX0_26 rfl hv0 (shape_ord hv0).1 dX0_readPower_8 ?_
  refine E_aload_n (j := 0) (i := 0) (q := 0) rfl rfl dX0_readPower_11 ?_
  refine gf_RX0_23 rfl hv0 (shape_ord hv0).1 dX0_readPower_12 ?_
  refine E_icmp_eq (tgt := 35) rfl dX0_readPower_15 (fun c6 => ?_) (fun c6 => ?_)
  · have hF := ite_t hF c6
    refine E_iconst (v := (1 : Int32)) rfl dX0_readPower_35 ?_
    refine E_goto (tgt := 40) rfl dX0_readPower_36 ?_
    exact E_zret (ty := .boolean) (Or.inl rfl) rfl rfl (by cases hF; exact hr) dX0_readPower_40
  · have hF := ite_f hF c6
    refine E_aload_n (j := 0) (i := 0) (q := 0) rfl rfl dX0_readPower_18 ?_
    refine E_bipush (v := (112 : Int32)) rfl dX0_readPower_19 ?_
    obtain ⟨q7, h8, hF⟩ := bd_inv hF
    refine E_callV (na := 1) (As := [.int (112 : Int32)]) (S := []) (kc := 0) (ks := 0) (ci := 2) rfl rfl hv0 (shape_ord hv0).1 cwV_RX0_40 ⟨Nat.le_of_ble_eq_true rfl, Nat.le_of_ble_eq_true rfl⟩ (T_X0_readSign hfl fl _ _ _ hv0 _ h8) rfl rfl rfl (Nat.le_of_ble_eq_true rfl) dX0_readPower_21 ?_
    refine E_if_eq (tgt := 39) rfl dX0_readPower_24 (fun c9 => ?_) (fun c9 => ?_)
    · have hF := ite_t hF c9
      refine E_iconst (v := (0 : Int32)) rfl dX0_readPower_39 ?_
      exact E_zret (ty := .boolean) (Or.inl rfl) rfl rfl (by cases hF; exact hr) dX0_readPower_40
    · have hF := ite_f hF c9
      refine E_aload_n (j := 0) (i := 0) (q := 0) rfl rfl dX0_readPower_27 ?_
      refine E_iconst (v := (4 : Int32)) rfl dX0_readPower_28 ?_
      obtain ⟨q10, h11, hF⟩ := bd_inv hF
      refine E_callV (na := 1) (As := [.int (4 : Int32)]) (S := []) (kc := 0) (ks := 0) (ci := 2) rfl rfl hv0 (shape_ord hv0).1 cwV_RX0_36 ⟨Nat.le_of_ble_eq_true rfl, Nat.le_of_ble_eq_true rfl⟩ (T_X0_readNumber hfl fl _ _ _ hv0 _ h11) rfl rfl rfl (Nat.le_of_ble_eq_true rfl) dX0_readPower_29 ?_
      refine E_if_eq (tgt := 39) rfl dX0_readPower_32 (fun c12 => ?_) (fun c12 => ?_)
      · have hF := ite_t hF c12
        refine E_iconst (v := (0 : Int32)) rfl dX0_readPower_39 ?_
        exact E_zret (ty := .boolean) (Or.inl rfl) rfl rfl (by cases hF; exact hr) dX0_readPower_40
      · have hF := ite_f hF c12
        refine E_iconst (v := (1 : Int32)) rfl dX0_readPower_35 ?_
        refine E_goto (tgt := 40) rfl dX0_readPower_36 ?_
        exact E_zret (ty := .boolean) (Or.inl rfl) rfl rfl (by cases hF; exact hr) dX0_readPower_40
set_option maxHeartbeats 4000000 in
set_option maxRecDepth 100000 in
theorem T_X0_readAll {l : Launch} (hfl : l.stackTraces = false) (fl : Nat) (v0 : Nat) (s : Mem) (hv0 : shape v0 = some (.inl 2)) (ρ : (Int32 × Mem)) (hF : F_X0_readAll fl v0 s = some ρ) : MetN l X_X0_readAll false NF s [.ref v0] (.inr (some (.int ρ.1)), NF, ρ.2) := by
  unfold F_X0_readAll at hF
  obtain ⟨r, hr⟩ : ∃ r : Rs, r = (.inr (some (.int ρ.1)), NF, ρ.2) := ⟨_, rfl⟩
  rw [← hr]
  refine met_of_E rfl rfl (by decide +kernel) hfl rfl (Nat.le_of_ble_eq_true rfl) ?_
  show E l X_X0_readAll r false NF s 0 0 0 [(0, .ref v0)] []
  refine E_aload_n (j := 0) (i := 0) (q := 0) rfl rfl dX0_readAll_0 ?_
  obtain ⟨q1, h2, hF⟩ := bd_inv hF
  refine E_callV (na := 0) (As := []) (S := []) (kc := 0) (ks := 0) (ci := 2) rfl rfl hv0 (shape_ord hv0).1 cwV_RX0_33 ⟨Nat.le_of_ble_eq_true rfl, Nat.le_of_ble_eq_true rfl⟩ (T_X0_readKind hfl fl _ _ hv0 _ h2) rfl rfl rfl (Nat.le_of_ble_eq_true rfl) dX0_readAll_1 ?_
  refine E_if_eq (tgt := 88) rfl dX0_readAll_4 (fun c3 => ?_) (fun c3 => ?_)
  · have hF := ite_t hF c3
    refine E_iconst (v := (0 : Int32)) rfl dX0_readAll_88 ?_
    exact E_zret (ty := .boolean) (Or.inl rfl) rfl rfl (by cases hF; exact hr) dX0_readAll_89
  · have hF := ite_f hF c3
    refine E_aload_n (j := 0) (i := 0) (q := 0) rfl rfl dX0_readAll_7 ?_
    refine E_iconst (v := (0 : Int32)) rfl dX0_readAll_8 ?_
    obtain ⟨q4, h5, hF⟩ := bd_inv hF
    refine E_callV (na := 1) (As := [.int (0 : Int32)]) (S := []) (kc := 0) (ks := 0) (ci := 2) rfl rfl hv0 (shape_ord hv0).1 cwV_RX0_36 ⟨Nat.le_of_ble_eq_true rfl, Nat.le_of_ble_eq_true rfl⟩ (T_X0_readNumber hfl fl _ _ _ hv0 _ h5) rfl rfl rfl (Nat.le_of_ble_eq_true rfl) dX0_readAll_9 ?_
    refine E_if_eq (tgt := 88) rfl dX0_readAll_12 (fun c6 => ?_) (fun c6 => ?_)
    · have hF := ite_t hF c6
      refine E_iconst (v := (0 : Int32)) rfl dX0_readAll_88 ?_
      exact E_zret (ty := .boolean) (Or.inl rfl) rfl rfl (by cases hF; exact hr) dX0_readAll_89
    · have hF := ite_f hF c6
      refine E_aload_n (j := 0) (i := 0) (q := 0) rfl rfl dX0_readAll_15 ?_
      refine E_bipush (v := (120 : Int32)) rfl dX0_readAll_16 ?_
      obtain ⟨q7, h8, hF⟩ := bd_inv hF
      refine E_callV (na := 1) (As := [.int (120 : Int32)]) (S := []) (kc := 0) (ks := 0) (ci := 2) rfl rfl hv0 (shape_ord hv0).1 cwV_RX0_40 ⟨Nat.le_of_ble_eq_true rfl, Nat.le_of_ble_eq_true rfl⟩ (T_X0_readSign hfl fl _ _ _ hv0 _ h8) rfl rfl rfl (Nat.le_of_ble_eq_true rfl) dX0_readAll_18 ?_
      refine E_if_eq (tgt := 88) rfl dX0_readAll_21 (fun c9 => ?_) (fun c9 => ?_)
      · have hF := ite_t hF c9
        refine E_iconst (v := (0 : Int32)) rfl dX0_readAll_88 ?_
        exact E_zret (ty := .boolean) (Or.inl rfl) rfl rfl (by cases hF; exact hr) dX0_readAll_89
      · have hF := ite_f hF c9
        refine E_aload_n (j := 0) (i := 0) (q := 0) rfl rfl dX0_readAll_24 ?_
        refine E_iconst (v := (1 : Int32)) rfl dX0_readAll_25 ?_
        obtain ⟨q10, h11, hF⟩ := bd_inv hF
        refine E_callV (na := 1) (As := [.int (1 : Int32)]) (S := []) (kc := 0) (ks := 0) (ci := 2) rfl rfl hv0 (shape_ord hv0).1 cwV_RX0_36 ⟨Nat.le_of_ble_eq_true rfl, Nat.le_of_ble_eq_true rfl⟩ (T_X0_readNumber hfl fl _ _ _ hv0 _ h11) rfl rfl rfl (Nat.le_of_ble_eq_true rfl) dX0_readAll_26 ?_
        refine E_if_eq (tgt := 88) rfl dX0_readAll_29 (fun c12 => ?_) (fun c12 => ?_)
        · have hF := ite_t hF c12
          refine E_iconst (v := (0 : Int32)) rfl dX0_readAll_88 ?_
          exact E_zret (ty := .boolean) (Or.inl rfl) rfl rfl (by cases hF; exact hr) dX0_readAll_89
        · have hF := ite_f hF c12
          refine E_aload_n (j := 0) (i := 0) (q := 0) rfl rfl dX0_readAll_32 ?_
          refine E_bipush (v := (64 : Int32)) rfl dX0_readAll_33 ?_
          obtain ⟨q13, h14, hF⟩ := bd_inv hF
          refine E_callV (na := 1) (As := [.int (64 : Int32)]) (S := []) (kc := 0) (ks := 0) (ci := 2) rfl rfl hv0 (shape_ord hv0).1 cwV_RX0_40 ⟨Nat.le_of_ble_eq_true rfl, Nat.le_of_ble_eq_true rfl⟩ (T_X0_readSign hfl fl _ _ _ hv0 _ h14) rfl rfl rfl (Nat.le_of_ble_eq_true rfl) dX0_readAll_35 ?_
          refine E_if_eq (tgt := 88) rfl dX0_readAll_38 (fun c15 => ?_) (fun c15 => ?_)
          · have hF := ite_t hF c15
            refine E_iconst (v := (0 : Int32)) rfl dX0_readAll_88 ?_
            exact E_zret (ty := .boolean) (Or.inl rfl) rfl rfl (by cases hF; exact hr) dX0_readAll_89
          · have hF := ite_f hF c15
            refine E_aload_n (j := 0) (i := 0) (q := 0) rfl rfl dX0_readAll_41 ?_
            refine E_iconst (v := (2 : Int32)) rfl dX0_readAll_42 ?_
            obtain ⟨q16, h17, hF⟩ := bd_inv hF
            refine E_callV (na := 1) (As := [.int (2 : Int32)]) (S := []) (kc := 0) (ks := 0) (ci := 2) rfl rfl hv0 (shape_ord hv0).1 cwV_RX0_36 ⟨Nat.le_of_ble_eq_true rfl, Nat.le_of_ble_eq_true rfl⟩ (T_X0_readNumber hfl fl _ _ _ hv0 _ h17) rfl rfl rfl (Nat.le_of_ble_eq_true rfl) dX0_readAll_43 ?_
            refine E_if_eq (tgt := 88) rfl dX0_readAll_46 (fun c18 => ?_) (fun c18 => ?_)
            · have hF := ite_t hF c18
              refine E_iconst (v := (0 : Int32)) rfl dX0_readAll_88 ?_
              exact E_zret (ty := .boolean) (Or.inl rfl) rfl rfl (by cases hF; exact hr) dX0_readAll_89
            · have hF := ite_f hF c18
              refine E_aload_n (j := 0) (i := 0) (q := 0) rfl rfl dX0_readAll_49 ?_
              refine E_bipush (v := (43 : Int32)) rfl dX0_readAll_50 ?_
              obtain ⟨q19, h20, hF⟩ := bd_inv hF
              refine E_callV (na := 1) (As := [.int (43 : Int32)]) (S := []) (kc := 0) (ks := 0) (ci := 2) rfl rfl hv0 (shape_ord hv0).1 cwV_RX0_40 ⟨Nat.le_of_ble_eq_true rfl, Nat.le_of_ble_eq_true rfl⟩ (T_X0_readSign hfl fl _ _ _ hv0 _ h20) rfl rfl rfl (Nat.le_of_ble_eq_true rfl) dX0_readAll_52 ?_
              refine E_if_eq (tgt := 88) rfl dX0_readAll_55 (fun c21 => ?_) (fun c21 => ?_)
              · have hF := ite_t hF c21
                refine E_iconst (v := (0 : Int32)) rfl dX0_readAll_88 ?_
                exact E_zret (ty := .boolean) (Or.inl rfl) rfl rfl (by cases hF; exact hr) dX0_readAll_89
              · have hF := ite_f hF c21
                refine E_aload_n (j := 0) (i := 0) (q := 0) rfl rfl dX0_readAll_58 ?_
                refine E_iconst (v := (3 : Int32)) rfl dX0_readAll_59 ?_
                obtain ⟨q22, h23, hF⟩ := bd_inv hF
                refine E_callV (na := 1) (As := [.int (3 : Int32)]) (S := []) (kc := 0) (ks := 0) (ci := 2) rfl rfl hv0 (shape_ord hv0).1 cwV_RX0_36 ⟨Nat.le_of_ble_eq_true rfl, Nat.le_of_ble_eq_true rfl⟩ (T_X0_readNumber hfl fl _ _ _ hv0 _ h23) rfl rfl rfl (Nat.le_of_ble_eq_true rfl) dX0_readAll_60 ?_
                refine E_if_eq (tgt := 88) rfl dX0_readAll_63 (fun c24 => ?_) (fun c24 => ?_)
                · have hF := ite_t hF c24
                  refine E_iconst (v := (0 : Int32)) rfl dX0_readAll_88 ?_
                  exact E_zret (ty := .boolean) (Or.inl rfl) rfl rfl (by cases hF; exact hr) dX0_readAll_89
                · have hF := ite_f hF c24
                  refine E_aload_n (j := 0) (i := 0) (q := 0) rfl rfl dX0_readAll_66 ?_
                  obtain ⟨q25, h26, hF⟩ := bd_inv hF
                  refine E_callV (na := 0) (As := []) (S := []) (kc := 0) (ks := 0) (ci := 2) rfl rfl hv0 (shape_ord hv0).1 cwV_RX0_44 ⟨Nat.le_of_ble_eq_true rfl, Nat.le_of_ble_eq_true rfl⟩ (T_X0_readPower hfl fl _ _ hv0 _ h26) rfl rfl rfl (Nat.le_of_ble_eq_true rfl) dX0_readAll_67 ?_
                  refine E_if_eq (tgt := 88) rfl dX0_readAll_70 (fun c27 => ?_) (fun c27 => ?_)
                  · have hF := ite_t hF c27
                    refine E_iconst (v := (0 : Int32)) rfl dX0_readAll_88 ?_
                    exact E_zret (ty := .boolean) (Or.inl rfl) rfl rfl (by cases hF; exact hr) dX0_readAll_89
                  · have hF := ite_f hF c27
                    refine E_aload_n (j := 0) (i := 0) (q := 0) rfl rfl dX0_readAll_73 ?_
                    refine gf_RX0_26 rfl hv0 (shape_ord hv0).1 dX0_readAll_74 ?_
                    refine E_aload_n (j := 0) (i := 0) (q := 0) rfl rfl dX0_readAll_77 ?_
                    refine gf_RX0_23 rfl hv0 (shape_ord hv0).1 dX0_readAll_78 ?_
                    refine E_icmp_ne (tgt := 88) rfl dX0_readAll_81 (fun c28 => ?_) (fun c28 => ?_)
                    · have hF := ite_f hF c28
                      refine E_iconst (v := (0 : Int32)) rfl dX0_readAll_88 ?_
                      exact E_zret (ty := .boolean) (Or.inl rfl) rfl rfl (by cases hF; exact hr) dX0_readAll_89
                    · have hF := ite_t hF c28
                      refine E_iconst (v := (1 : Int32)) rfl dX0_readAll_84 ?_
                      refine E_goto (tgt := 89) rfl dX0_readAll_85 ?_
                      exact E_zret (ty := .boolean) (Or.inl rfl) rfl rfl (by cases hF; exact hr) dX0_readAll_89
set_option maxHeartbeats 4000000 in
set_option maxRecDepth 100000 in
theorem T_X0_parse {l : Launch} (hfl : l.stackTraces = false) (fl : Nat) (v0 : Nat) (s : Mem) (hv0 : shape v0 = some (.inl 2)) (ρ : (Int32 × Mem)) (hF : F_X0_parse fl v0 s = some ρ) : MetN l X_X0_parse false NF s [.ref v0] (.inr (some (.int ρ.1)), NF, ρ.2) := by
  unfold F_X0_parse at hF
  obtain ⟨r, hr⟩ : ∃ r : Rs, r = (.inr (some (.int ρ.1)), NF, ρ.2) := ⟨_, rfl⟩
  rw [← hr]
  refine met_of_E rfl rfl (by decide +kernel) hfl rfl (Nat.le_of_ble_eq_true rfl) ?_
  show E l X_X0_parse r false NF s 0 0 0 [(0, .ref v0)] []
  refine E_aload_n (j := 0) (i := 0) (q := 0) rfl rfl dX0_parse_0 ?_
  refine E_iconst (v := (0 : Int32)) rfl dX0_parse_1 ?_
  refine pf_RX0_26 rfl hv0 (shape_ord hv0).1 dX0_parse_2 ?_
  obtain ⟨m1, e2, hF⟩ := nx_inv hF
  refine E_mem e2 ?_
  refine E_aload_n (j := 0) (i := 0) (q := 0) rfl rfl dX0_parse_5 ?_
  obtain ⟨q3, h4, hF⟩ := bd_inv hF
  refine E_callV (na := 0) (As := []) (S := []) (kc := 0) (ks := 0) (ci := 2) rfl rfl hv0 (shape_ord hv0).1 cwV_RX0_29 ⟨Nat.le_of_ble_eq_true rfl, Nat.le_of_ble_eq_true rfl⟩ (T_X0_readAll hfl fl _ _ hv0 _ h4) rfl rfl rfl (Nat.le_of_ble_eq_true rfl) dX0_parse_6 ?_
  refine E_istore_n (j := 1) (i := 1) (L' := [(1, .int q3.1), (0, .ref v0)]) rfl (Nat.le_of_ble_eq_true rfl) rfl dX0_parse_9 ?_
  refine E_aload_n (j := 0) (i := 0) (q := 1) rfl rfl dX0_parse_10 ?_
  refine E_iload_n (j := 1) (i := 1) (q := 0) rfl rfl dX0_parse_11 ?_
  refine E_if_eq (tgt := 19) rfl dX0_parse_12 (fun c5 => ?_) (fun c5 => ?_)
  · have hF := ite_t hF c5
    refine E_aload_n (j := 0) (i := 0) (q := 1) rfl rfl dX0_parse_19 ?_
    refine gf_RX0_26 rfl hv0 (shape_ord hv0).1 dX0_parse_20 ?_
    refine pf_RX0_15 rfl hv0 (shape_ord hv0).1 dX0_parse_23 ?_
    obtain ⟨m6, e7, hF⟩ := nx_inv hF
    refine E_mem e7 ?_
    refine E_aload_n (j := 0) (i := 0) (q := 1) rfl rfl dX0_parse_26 ?_
    refine E_iconst (v := (0 : Int32)) rfl dX0_parse_27 ?_
    refine pf_RX0_23 rfl hv0 (shape_ord hv0).1 dX0_parse_28 ?_
    obtain ⟨m8, e9, hF⟩ := nx_inv hF
    refine E_mem e9 ?_
    refine E_iload_n (j := 1) (i := 1) (q := 0) rfl rfl dX0_parse_31 ?_
    obtain ⟨h10, hF⟩ := gd_inv hF
    exact E_zret (ty := .boolean) (Or.inl rfl) rfl (nar_b h10) (by cases hF; exact hr) dX0_parse_32
  · have hF := ite_f hF c5
    refine E_iconst (v := (-1 : Int32)) rfl dX0_parse_15 ?_
    refine E_goto (tgt := 23) rfl dX0_parse_16 ?_
    refine pf_RX0_15 rfl hv0 (shape_ord hv0).1 dX0_parse_23 ?_
    obtain ⟨m11, e12, hF⟩ := nx_inv hF
    refine E_mem e12 ?_
    refine E_aload_n (j := 0) (i := 0) (q := 1) rfl rfl dX0_parse_26 ?_
    refine E_iconst (v := (0 : Int32)) rfl dX0_parse_27 ?_
    refine pf_RX0_23 rfl hv0 (shape_ord hv0).1 dX0_parse_28 ?_
    obtain ⟨m13, e14, hF⟩ := nx_inv hF
    refine E_mem e14 ?_
    refine E_iload_n (j := 1) (i := 1) (q := 0) rfl rfl dX0_parse_31 ?_
    obtain ⟨h15, hF⟩ := gd_inv hF
    exact E_zret (ty := .boolean) (Or.inl rfl) rfl (nar_b h15) (by cases hF; exact hr) dX0_parse_32
set_option maxHeartbeats 4000000 in
set_option maxRecDepth 100000 in
theorem T_X4_copyFrom {l : Launch} (hfl : l.stackTraces = false) (fl : Nat) (v0 : Nat) (v1 : Nat) (s : Mem) (hv0 : shape v0 = some (.inl 6)) (hv1 : shape v1 = some (.inl 6)) (ρ : Mem) (hF : F_X4_copyFrom fl v0 v1 s = some ρ) : MetN l X_X4_copyFrom false NF s [.ref v0, .ref v1] (.inr none, NF, ρ) := by
  unfold F_X4_copyFrom at hF
  obtain ⟨r, hr⟩ : ∃ r : Rs, r = (.inr none, NF, ρ) := ⟨_, rfl⟩
  rw [← hr]
  refine met_of_E rfl rfl (by decide +kernel) hfl rfl (Nat.le_of_ble_eq_true rfl) ?_
  show E l X_X4_copyFrom r false NF s 0 0 0 [(0, .ref v0), (1, .ref v1)] []
  refine E_aload_n (j := 0) (i := 0) (q := 0) rfl rfl dX4_copyFrom_0 ?_
  refine E_aload_n (j := 1) (i := 1) (q := 1) rfl rfl dX4_copyFrom_1 ?_
  refine gf_RX4_9 rfl hv1 (shape_ord hv1).1 dX4_copyFrom_2 ?_
  refine pf_RX4_9 rfl hv0 (shape_ord hv0).1 dX4_copyFrom_5 ?_
  obtain ⟨m1, e2, hF⟩ := nx_inv hF
  refine E_mem e2 ?_
  refine E_aload_n (j := 0) (i := 0) (q := 0) rfl rfl dX4_copyFrom_8 ?_
  refine E_aload_n (j := 1) (i := 1) (q := 1) rfl rfl dX4_copyFrom_9 ?_
  refine gf_RX4_15 rfl hv1 (shape_ord hv1).1 dX4_copyFrom_10 ?_
  refine pf_RX4_15 rfl hv0 (shape_ord hv0).1 dX4_copyFrom_13 ?_
  obtain ⟨m3, e4, hF⟩ := nx_inv hF
  refine E_mem e4 ?_
  refine E_aload_n (j := 0) (i := 0) (q := 0) rfl rfl dX4_copyFrom_16 ?_
  refine E_aload_n (j := 1) (i := 1) (q := 1) rfl rfl dX4_copyFrom_17 ?_
  refine gf_RX4_18 rfl hv1 (shape_ord hv1).1 dX4_copyFrom_18 ?_
  refine pf_RX4_18 rfl hv0 (shape_ord hv0).1 dX4_copyFrom_21 ?_
  obtain ⟨m5, e6, hF⟩ := nx_inv hF
  refine E_mem e6 ?_
  refine E_aload_n (j := 0) (i := 0) (q := 0) rfl rfl dX4_copyFrom_24 ?_
  refine E_aload_n (j := 1) (i := 1) (q := 1) rfl rfl dX4_copyFrom_25 ?_
  refine gf_RX4_21 rfl hv1 (shape_ord hv1).1 dX4_copyFrom_26 ?_
  refine pf_RX4_21 rfl hv0 (shape_ord hv0).1 dX4_copyFrom_29 ?_
  obtain ⟨m7, e8, hF⟩ := nx_inv hF
  refine E_mem e8 ?_
  refine E_aload_n (j := 0) (i := 0) (q := 0) rfl rfl dX4_copyFrom_32 ?_
  refine E_aload_n (j := 1) (i := 1) (q := 1) rfl rfl dX4_copyFrom_33 ?_
  refine gf_RX4_24 rfl hv1 (shape_ord hv1).1 dX4_copyFrom_34 ?_
  refine pf_RX4_24 rfl hv0 (shape_ord hv0).1 dX4_copyFrom_37 ?_
  obtain ⟨m9, e10, hF⟩ := nx_inv hF
  refine E_mem e10 ?_
  exact E_vret (Or.inl rfl) rfl (by cases hF; exact hr) dX4_copyFrom_40
set_option maxHeartbeats 4000000 in
set_option maxRecDepth 100000 in
theorem T_X3_copyFrom {l : Launch} (hfl : l.stackTraces = false) (fl : Nat) (v0 : Nat) (v1 : Nat) (s : Mem) (hv0 : shape v0 = some (.inl 5)) (hv1 : shape v1 = some (.inl 5)) (ρ : Mem) (hF : F_X3_copyFrom fl v0 v1 s = some ρ) : MetN l X_X3_copyFrom false NF s [.ref v0, .ref v1] (.inr none, NF, ρ) := by
  unfold F_X3_copyFrom at hF
  obtain ⟨r, hr⟩ : ∃ r : Rs, r = (.inr none, NF, ρ) := ⟨_, rfl⟩
  rw [← hr]
  refine met_of_E rfl rfl (by decide +kernel) hfl rfl (Nat.le_of_ble_eq_true rfl) ?_
  show E l X_X3_copyFrom r false NF s 0 0 0 [(0, .ref v0), (1, .ref v1)] []
  refine E_aload_n (j := 0) (i := 0) (q := 0) rfl rfl dX3_copyFrom_0 ?_
  refine E_aload_n (j := 1) (i := 1) (q := 1) rfl rfl dX3_copyFrom_1 ?_
  refine gf_RX3_9 rfl hv1 (shape_ord hv1).1 dX3_copyFrom_2 ?_
  refine pf_RX3_9 rfl hv0 (shape_ord hv0).1 dX3_copyFrom_5 ?_
  obtain ⟨m1, e2, hF⟩ := nx_inv hF
  refine E_mem e2 ?_
  refine E_aload_n (j := 0) (i := 0) (q := 0) rfl rfl dX3_copyFrom_8 ?_
  refine E_aload_n (j := 1) (i := 1) (q := 1) rfl rfl dX3_copyFrom_9 ?_
  refine gf_RX3_15 rfl hv1 (shape_ord hv1).1 dX3_copyFrom_10 ?_
  refine pf_RX3_15 rfl hv0 (shape_ord hv0).1 dX3_copyFrom_13 ?_
  obtain ⟨m3, e4, hF⟩ := nx_inv hF
  refine E_mem e4 ?_
  refine E_aload_n (j := 0) (i := 0) (q := 0) rfl rfl dX3_copyFrom_16 ?_
  refine E_aload_n (j := 1) (i := 1) (q := 1) rfl rfl dX3_copyFrom_17 ?_
  refine gf_RX3_18 rfl hv1 (shape_ord hv1).1 dX3_copyFrom_18 ?_
  refine pf_RX3_18 rfl hv0 (shape_ord hv0).1 dX3_copyFrom_21 ?_
  obtain ⟨m5, e6, hF⟩ := nx_inv hF
  refine E_mem e6 ?_
  refine E_aload_n (j := 0) (i := 0) (q := 0) rfl rfl dX3_copyFrom_24 ?_
  refine E_aload_n (j := 1) (i := 1) (q := 1) rfl rfl dX3_copyFrom_25 ?_
  refine gf_RX3_21 rfl hv1 (shape_ord hv1).1 dX3_copyFrom_26 ?_
  refine pf_RX3_21 rfl hv0 (shape_ord hv0).1 dX3_copyFrom_29 ?_
  obtain ⟨m7, e8, hF⟩ := nx_inv hF
  refine E_mem e8 ?_
  refine E_aload_n (j := 0) (i := 0) (q := 0) rfl rfl dX3_copyFrom_32 ?_
  refine E_aload_n (j := 1) (i := 1) (q := 1) rfl rfl dX3_copyFrom_33 ?_
  refine gf_RX3_24 rfl hv1 (shape_ord hv1).1 dX3_copyFrom_34 ?_
  refine pf_RX3_24 rfl hv0 (shape_ord hv0).1 dX3_copyFrom_37 ?_
  obtain ⟨m9, e10, hF⟩ := nx_inv hF
  refine E_mem e10 ?_
  refine E_aload_n (j := 0) (i := 0) (q := 0) rfl rfl dX3_copyFrom_40 ?_
  refine E_aload_n (j := 1) (i := 1) (q := 1) rfl rfl dX3_copyFrom_41 ?_
  refine gf_RX3_27 rfl hv1 (shape_ord hv1).1 dX3_copyFrom_42 ?_
  refine pf_RX3_27 rfl hv0 (shape_ord hv0).1 dX3_copyFrom_45 ?_
  obtain ⟨m11, e12, hF⟩ := nx_inv hF
  refine E_mem e12 ?_
  refine E_aload_n (j := 0) (i := 0) (q := 0) rfl rfl dX3_copyFrom_48 ?_
  refine E_aload_n (j := 1) (i := 1) (q := 1) rfl rfl dX3_copyFrom_49 ?_
  refine gf_RX3_34 rfl hv1 (shape_ord hv1).1 dX3_copyFrom_50 ?_
  refine pf_RX3_34 rfl hv0 (shape_ord hv0).1 dX3_copyFrom_53 ?_
  obtain ⟨m13, e14, hF⟩ := nx_inv hF
  refine E_mem e14 ?_
  refine E_aload_n (j := 0) (i := 0) (q := 0) rfl rfl dX3_copyFrom_56 ?_
  refine E_aload_n (j := 1) (i := 1) (q := 1) rfl rfl dX3_copyFrom_57 ?_
  refine gf_RX3_38 rfl hv1 (shape_ord hv1).1 dX3_copyFrom_58 ?_
  refine pf_RX3_38 rfl hv0 (shape_ord hv0).1 dX3_copyFrom_61 ?_
  obtain ⟨m15, e16, hF⟩ := nx_inv hF
  refine E_mem e16 ?_
  refine E_aload_n (j := 0) (i := 0) (q := 0) rfl rfl dX3_copyFrom_64 ?_
  refine E_aload_n (j := 1) (i := 1) (q := 1) rfl rfl dX3_copyFrom_65 ?_
  refine gf_RX3_41 rfl hv1 (shape_ord hv1).1 dX3_copyFrom_66 ?_
  refine pf_RX3_41 rfl hv0 (shape_ord hv0).1 dX3_copyFrom_69 ?_
  obtain ⟨m17, e18, hF⟩ := nx_inv hF
  refine E_mem e18 ?_
  refine E_aload_n (j := 0) (i := 0) (q := 0) rfl rfl dX3_copyFrom_72 ?_
  refine E_aload_n (j := 1) (i := 1) (q := 1) rfl rfl dX3_copyFrom_73 ?_
  refine gf_RX3_44 rfl hv1 (shape_ord hv1).1 dX3_copyFrom_74 ?_
  refine pf_RX3_44 rfl hv0 (shape_ord hv0).1 dX3_copyFrom_77 ?_
  obtain ⟨m19, e20, hF⟩ := nx_inv hF
  refine E_mem e20 ?_
  refine E_aload_n (j := 0) (i := 0) (q := 0) rfl rfl dX3_copyFrom_80 ?_
  refine E_aload_n (j := 1) (i := 1) (q := 1) rfl rfl dX3_copyFrom_81 ?_
  refine gf_RX3_47 rfl hv1 (shape_ord hv1).1 dX3_copyFrom_82 ?_
  obtain ⟨h21, hF⟩ := gd_inv hF
  refine pf_RX3_47 rfl h21 hv0 (shape_ord hv0).1 dX3_copyFrom_85 ?_
  obtain ⟨m22, e23, hF⟩ := nx_inv hF
  refine E_mem e23 ?_
  exact E_vret (Or.inl rfl) rfl (by cases hF; exact hr) dX3_copyFrom_88
set_option maxHeartbeats 4000000 in
set_option maxRecDepth 100000 in
theorem T_X6_copyFrom {l : Launch} (hfl : l.stackTraces = false) (fl : Nat) (v0 : Nat) (v1 : Nat) (s : Mem) (hv0 : shape v0 = some (.inl 8)) (hv1 : shape v1 = some (.inl 8)) (ρ : Mem) (hF : F_X6_copyFrom fl v0 v1 s = some ρ) : MetN l X_X6_copyFrom false NF s [.ref v0, .ref v1] (.inr none, NF, ρ) := by
  unfold F_X6_copyFrom at hF
  obtain ⟨r, hr⟩ : ∃ r : Rs, r = (.inr none, NF, ρ) := ⟨_, rfl⟩
  rw [← hr]
  refine met_of_E rfl rfl (by decide +kernel) hfl rfl (Nat.le_of_ble_eq_true rfl) ?_
  show E l X_X6_copyFrom r false NF s 0 0 0 [(0, .ref v0), (1, .ref v1)] []
  refine E_aload_n (j := 0) (i := 0) (q := 0) rfl rfl dX6_copyFrom_0 ?_
  refine E_aload_n (j := 1) (i := 1) (q := 1) rfl rfl dX6_copyFrom_1 ?_
  refine gf_RX6_7 rfl hv1 (shape_ord hv1).1 dX6_copyFrom_2 ?_
  refine pf_RX6_7 rfl hv0 (shape_ord hv0).1 dX6_copyFrom_5 ?_
  obtain ⟨m1, e2, hF⟩ := nx_inv hF
  refine E_mem e2 ?_
  refine E_aload_n (j := 0) (i := 0) (q := 0) rfl rfl dX6_copyFrom_8 ?_
  refine E_aload_n (j := 1) (i := 1) (q := 1) rfl rfl dX6_copyFrom_9 ?_
  refine gf_RX6_13 rfl hv1 (shape_ord hv1).1 dX6_copyFrom_10 ?_
  refine pf_RX6_13 rfl hv0 (shape_ord hv0).1 dX6_copyFrom_13 ?_
  obtain ⟨m3, e4, hF⟩ := nx_inv hF
  refine E_mem e4 ?_
  refine E_aload_n (j := 0) (i := 0) (q := 0) rfl rfl dX6_copyFrom_16 ?_
  refine E_aload_n (j := 1) (i := 1) (q := 1) rfl rfl dX6_copyFrom_17 ?_
  refine gf_RX6_16 rfl hv1 (shape_ord hv1).1 dX6_copyFrom_18 ?_
  refine pf_RX6_16 rfl hv0 (shape_ord hv0).1 dX6_copyFrom_21 ?_
  obtain ⟨m5, e6, hF⟩ := nx_inv hF
  refine E_mem e6 ?_
  exact E_vret (Or.inl rfl) rfl (by cases hF; exact hr) dX6_copyFrom_24
set_option maxHeartbeats 4000000 in
set_option maxRecDepth 100000 in
theorem T_X1_copyFrom_119 {l : Launch} (hfl : l.stackTraces = false) (fl : Nat) {r : Rs} {ρ : Mem} (hr : r = (.inr none, NF, ρ)) : ∀ (n : Nat) (v0 : Nat) (v1 : Nat) (v2 : Int32) (s : Mem) (hv0 : shape v0 = some (.inl 3)) (hv1 : shape v1 = some (.inl 3)), B_X1_copyFrom_119 fl n v0 v1 v2 s = some ρ → E l X_X1_copyFrom r false NF s 0 0 119 [(0, .ref v0), (1, .ref v1), (2, .int v2)] [] := by
  intro n
  induction n with
  | zero =>
    intro v0 v1 v2 s hv0 hv1 hF
    cases hF
  | succ n ih =>
    intro v0 v1 v2 s hv0 hv1 hF
    refine E_iload_n (j := 2) (i := 2) (q := 2) rfl rfl dX1_copyFrom_119 ?_
    refine E_iconst (v := (3 : Int32)) rfl dX1_copyFrom_120 ?_
    refine E_icmp_ge (tgt := 142) rfl dX1_copyFrom_121 (fun c1 => ?_) (fun c1 => ?_)
    · have hF := ite_t hF c1
      refine E_aload_n (j := 0) (i := 0) (q := 0) rfl rfl dX1_copyFrom_142 ?_
      refine E_aload_n (j := 1) (i := 1) (q := 1) rfl rfl dX1_copyFrom_143 ?_
      refine gf_RX1_36 rfl hv1 (shape_ord hv1).1 dX1_copyFrom_144 ?_
      refine pf_RX1_36 rfl hv0 (shape_ord hv0).1 dX1_copyFrom_147 ?_
      obtain ⟨m2, e3, hF⟩ := nx_inv hF
      refine E_mem e3 ?_
      refine E_aload_n (j := 0) (i := 0) (q := 0) rfl rfl dX1_copyFrom_150 ?_
      refine E_aload_n (j := 1) (i := 1) (q := 1) rfl rfl dX1_copyFrom_151 ?_
      refine gf_RX1_59 rfl hv1 (shape_ord hv1).1 dX1_copyFrom_152 ?_
      refine pf_RX1_59 rfl hv0 (shape_ord hv0).1 dX1_copyFrom_155 ?_
      obtain ⟨m4, e5, hF⟩ := nx_inv hF
      refine E_mem e5 ?_
      exact E_vret (Or.inl rfl) rfl (by cases hF; exact hr) dX1_copyFrom_158
    · have hF := ite_f hF c1
      refine E_aload_n (j := 0) (i := 0) (q := 0) rfl rfl dX1_copyFrom_124 ?_
      obtain ⟨r6, h7, hF⟩ := bd_inv hF
      have h7 := ldA_inv h7
      refine gf_RX1_32 rfl hv0 (shape_ord hv0).1 h7.1 dX1_copyFrom_125 ?_
      refine E_iload_n (j := 2) (i := 2) (q := 2) rfl rfl dX1_copyFrom_128 ?_
      refine E_aload_n (j := 1) (i := 1) (q := 1) rfl rfl dX1_copyFrom_129 ?_
      obtain ⟨r8, h9, hF⟩ := bd_inv hF
      have h9 := ldA_inv h9
      refine gf_RX1_32 rfl hv1 (shape_ord hv1).1 h9.1 dX1_copyFrom_130 ?_
      refine E_iload_n (j := 2) (i := 2) (q := 2) rfl rfl dX1_copyFrom_133 ?_
      obtain ⟨h10, hF⟩ := gd_inv hF
      refine E_iald _ h9.2 (shape_ord h9.2).1 h10 dX1_copyFrom_134 ?_
      obtain ⟨h11, hF⟩ := gd_inv hF
      refine E_iast _ h7.2 (shape_ord h7.2).1 h11 dX1_copyFrom_135 ?_
      obtain ⟨m12, e13, hF⟩ := nx_inv hF
      refine E_mem e13 ?_
      refine E_iinc (q := 2) (v := (v2 + (1 : Int32))) (L' := [(2, .int (v2 + (1 : Int32))), (0, .ref v0), (1, .ref v1)]) rfl rfl (Nat.le_of_ble_eq_true rfl) rfl dX1_copyFrom_136 ?_
      refine E_goto (tgt := 119) rfl dX1_copyFrom_139 ?_
      refine E_sub [1, 2, 0] rfl ?_
      exact ih _ _ _ _ hv0 hv1 hF
set_option maxHeartbeats 4000000 in
set_option maxRecDepth 100000 in
theorem T_X1_copyFrom_88 {l : Launch} (hfl : l.stackTraces = false) (fl : Nat) {r : Rs} {ρ : Mem} (hr : r = (.inr none, NF, ρ)) : ∀ (n : Nat) (v0 : Nat) (v1 : Nat) (v2 : Int32) (s : Mem) (hv0 : shape v0 = some (.inl 3)) (hv1 : shape v1 = some (.inl 3)), B_X1_copyFrom_88 fl n v0 v1 v2 s = some ρ → E l X_X1_copyFrom r false NF s 0 0 88 [(0, .ref v0), (1, .ref v1), (2, .int v2)] [] := by
  intro n
  induction n with
  | zero =>
    intro v0 v1 v2 s hv0 hv1 hF
    cases hF
  | succ n ih =>
    intro v0 v1 v2 s hv0 hv1 hF
    refine E_iload_n (j := 2) (i := 2) (q := 2) rfl rfl dX1_copyFrom_88 ?_
    refine E_aload_n (j := 0) (i := 0) (q := 0) rfl rfl dX1_copyFrom_89 ?_
    refine gf_RX1_53 rfl hv0 (shape_ord hv0).1 dX1_copyFrom_90 ?_
    refine E_icmp_ge (tgt := 117) rfl dX1_copyFrom_93 (fun c14 => ?_) (fun c14 => ?_)
    · have hF := ite_t hF c14
      refine E_iconst (v := (0 : Int32)) rfl dX1_copyFrom_117 ?_
      refine E_istore_n (j := 2) (i := 2) (L' := [(2, .int (0 : Int32)), (0, .ref v0), (1, .ref v1)]) rfl (Nat.le_of_ble_eq_true rfl) rfl dX1_copyFrom_118 ?_
      refine E_sub [1, 2, 0] rfl ?_
      exact T_X1_copyFrom_119 hfl fl hr  fl _ _ _ _ hv0 hv1 hF
    · have hF := ite_f hF c14
      refine E_aload_n (j := 0) (i := 0) (q := 0) rfl rfl dX1_copyFrom_96 ?_
      obtain ⟨r15, h16, hF⟩ := bd_inv hF
      have h16 := ldA_inv h16
      refine gf_RX1_27 rfl hv0 (shape_ord hv0).1 h16.1 dX1_copyFrom_97 ?_
      refine E_iload_n (j := 2) (i := 2) (q := 2) rfl rfl dX1_copyFrom_100 ?_
      obtain ⟨h17, hF⟩ := gd_inv hF
      obtain ⟨r18, h19, hF⟩ := bd_inv hF
      have h19 := ldO_inv h19
      refine E_aald _ ⟨Nat.le_of_ble_eq_true rfl, Nat.le_of_ble_eq_true rfl⟩ h16.2 (shape_ord h16.2).1 h17 h19.1 dX1_copyFrom_101 ?_
      refine E_aload_n (j := 1) (i := 1) (q := 1) rfl rfl dX1_copyFrom_102 ?_
      obtain ⟨r20, h21, hF⟩ := bd_inv hF
      have h21 := ldA_inv h21
      refine gf_RX1_27 rfl hv1 (shape_ord hv1).1 h21.1 dX1_copyFrom_103 ?_
      refine E_iload_n (j := 2) (i := 2) (q := 2) rfl rfl dX1_copyFrom_106 ?_
      obtain ⟨h22, hF⟩ := gd_inv hF
      obtain ⟨r23, h24, hF⟩ := bd_inv hF
      have h24 := ldO_inv h24
      refine E_aald _ ⟨Nat.le_of_ble_eq_true rfl, Nat.le_of_ble_eq_true rfl⟩ h21.2 (shape_ord h21.2).1 h22 h24.1 dX1_copyFrom_107 ?_
      obtain ⟨q25, h26, hF⟩ := bd_inv hF
      refine E_callV (na := 1) (As := [.ref r23]) (S := []) (kc := 0) (ks := 0) (ci := 8) rfl rfl h19.2 (shape_ord h19.2).1 cwV_RX1_56 ⟨Nat.le_of_ble_eq_true rfl, Nat.le_of_ble_eq_true rfl⟩ (T_X6_copyFrom hfl fl _ _ _ h19.2 h24.2 _ h26) rfl rfl rfl (Nat.le_of_ble_eq_true rfl) dX1_copyFrom_108 ?_
      refine E_iinc (q := 2) (v := (v2 + (1 : Int32))) (L' := [(2, .int (v2 + (1 : Int32))), (0, .ref v0), (1, .ref v1)]) rfl rfl (Nat.le_of_ble_eq_true rfl) rfl dX1_copyFrom_111 ?_
      refine E_goto (tgt := 88) rfl dX1_copyFrom_114 ?_
      refine E_sub [1, 2, 0] rfl ?_
      exact ih _ _ _ _ hv0 hv1 hF
set_option maxHeartbeats 4000000 in
set_option maxRecDepth 100000 in
theorem T_X1_copyFrom_49 {l : Launch} (hfl : l.stackTraces = false) (fl : Nat) {r : Rs} {ρ : Mem} (hr : r = (.inr none, NF, ρ)) : ∀ (n : Nat) (v0 : Nat) (v1 : Nat) (v2 : Int32) (s : Mem) (hv0 : shape v0 = some (.inl 3)) (hv1 : shape v1 = some (.inl 3)), B_X1_copyFrom_49 fl n v0 v1 v2 s = some ρ → E l X_X1_copyFrom r false NF s 0 0 49 [(0, .ref v0), (1, .ref v1), (2, .int v2)] [] := by
  intro n
  induction n with
  | zero =>
    intro v0 v1 v2 s hv0 hv1 hF
    cases hF
  | succ n ih =>
    intro v0 v1 v2 s hv0 hv1 hF
    refine E_iload_n (j := 2) (i := 2) (q := 2) rfl rfl dX1_copyFrom_49 ?_
    refine E_aload_n (j := 0) (i := 0) (q := 0) rfl rfl dX1_copyFrom_50 ?_
    refine gf_RX1_47 rfl hv0 (shape_ord hv0).1 dX1_copyFrom_51 ?_
    refine E_icmp_ge (tgt := 78) rfl dX1_copyFrom_54 (fun c27 => ?_) (fun c27 => ?_)
    · have hF := ite_t hF c27
      refine E_aload_n (j := 0) (i := 0) (q := 0) rfl rfl dX1_copyFrom_78 ?_
      refine E_aload_n (j := 1) (i := 1) (q := 1) rfl rfl dX1_copyFrom_79 ?_
      refine gf_RX1_53 rfl hv1 (shape_ord hv1).1 dX1_copyFrom_80 ?_
      refine pf_RX1_53 rfl hv0 (shape_ord hv0).1 dX1_copyFrom_83 ?_
      obtain ⟨m28, e29, hF⟩ := nx_inv hF
      refine E_mem e29 ?_
      refine E_iconst (v := (0 : Int32)) rfl dX1_copyFrom_86 ?_
      refine E_istore_n (j := 2) (i := 2) (L' := [(2, .int (0 : Int32)), (0, .ref v0), (1, .ref v1)]) rfl (Nat.le_of_ble_eq_true rfl) rfl dX1_copyFrom_87 ?_
      refine E_sub [1, 2, 0] rfl ?_
      exact T_X1_copyFrom_88 hfl fl hr  fl _ _ _ _ hv0 hv1 hF
    · have hF := ite_f hF c27
      refine E_aload_n (j := 0) (i := 0) (q := 0) rfl rfl dX1_copyFrom_57 ?_
      obtain ⟨r30, h31, hF⟩ := bd_inv hF
      have h31 := ldA_inv h31
      refine gf_RX1_20 rfl hv0 (shape_ord hv0).1 h31.1 dX1_copyFrom_58 ?_
      refine E_iload_n (j := 2) (i := 2) (q := 2) rfl rfl dX1_copyFrom_61 ?_
      obtain ⟨h32, hF⟩ := gd_inv hF
      obtain ⟨r33, h34, hF⟩ := bd_inv hF
      have h34 := ldO_inv h34
      refine E_aald _ ⟨Nat.le_of_ble_eq_true rfl, Nat.le_of_ble_eq_true rfl⟩ h31.2 (shape_ord h31.2).1 h32 h34.1 dX1_copyFrom_62 ?_
      refine E_aload_n (j := 1) (i := 1) (q := 1) rfl rfl dX1_copyFrom_63 ?_
      obtain ⟨r35, h36, hF⟩ := bd_inv hF
      have h36 := ldA_inv h36
      refine gf_RX1_20 rfl hv1 (shape_ord hv1).1 h36.1 dX1_copyFrom_64 ?_
      refine E_iload_n (j := 2) (i := 2) (q := 2) rfl rfl dX1_copyFrom_67 ?_
      obtain ⟨h37, hF⟩ := gd_inv hF
      obtain ⟨r38, h39, hF⟩ := bd_inv hF
      have h39 := ldO_inv h39
      refine E_aald _ ⟨Nat.le_of_ble_eq_true rfl, Nat.le_of_ble_eq_true rfl⟩ h36.2 (shape_ord h36.2).1 h37 h39.1 dX1_copyFrom_68 ?_
      obtain ⟨q40, h41, hF⟩ := bd_inv hF
      refine E_callV (na := 1) (As := [.ref r38]) (S := []) (kc := 0) (ks := 0) (ci := 5) rfl rfl h34.2 (shape_ord h34.2).1 cwV_RX1_50 ⟨Nat.le_of_ble_eq_true rfl, Nat.le_of_ble_eq_true rfl⟩ (T_X3_copyFrom hfl fl _ _ _ h34.2 h39.2 _ h41) rfl rfl rfl (Nat.le_of_ble_eq_true rfl) dX1_copyFrom_69 ?_
      refine E_iinc (q := 2) (v := (v2 + (1 : Int32))) (L' := [(2, .int (v2 + (1 : Int32))), (0, .ref v0), (1, .ref v1)]) rfl rfl (Nat.le_of_ble_eq_true rfl) rfl dX1_copyFrom_72 ?_
      refine E_goto (tgt := 49) rfl dX1_copyFrom_75 ?_
      refine E_sub [1, 2, 0] rfl ?_
      exact ih _ _ _ _ hv0 hv1 hF
set_option maxHeartbeats 4000000 in
set_option maxRecDepth 100000 in
theorem T_X1_copyFrom_10 {l : Launch} (hfl : l.stackTraces = false) (fl : Nat) {r : Rs} {ρ : Mem} (hr : r = (.inr none, NF, ρ)) : ∀ (n : Nat) (v0 : Nat) (v1 : Nat) (v2 : Int32) (s : Mem) (hv0 : shape v0 = some (.inl 3)) (hv1 : shape v1 = some (.inl 3)), B_X1_copyFrom_10 fl n v0 v1 v2 s = some ρ → E l X_X1_copyFrom r false NF s 0 0 10 [(0, .ref v0), (1, .ref v1), (2, .int v2)] [] := by
  intro n
  induction n with
  | zero =>
    intro v0 v1 v2 s hv0 hv1 hF
    cases hF
  | succ n ih =>
    intro v0 v1 v2 s hv0 hv1 hF
    refine E_iload_n (j := 2) (i := 2) (q := 2) rfl rfl dX1_copyFrom_10 ?_
    refine E_aload_n (j := 0) (i := 0) (q := 0) rfl rfl dX1_copyFrom_11 ?_
    refine gf_RX1_40 rfl hv0 (shape_ord hv0).1 dX1_copyFrom_12 ?_
    refine E_icmp_ge (tgt := 39) rfl dX1_copyFrom_15 (fun c42 => ?_) (fun c42 => ?_)
    · have hF := ite_t hF c42
      refine E_aload_n (j := 0) (i := 0) (q := 0) rfl rfl dX1_copyFrom_39 ?_
      refine E_aload_n (j := 1) (i := 1) (q := 1) rfl rfl dX1_copyFrom_40 ?_
      refine gf_RX1_47 rfl hv1 (shape_ord hv1).1 dX1_copyFrom_41 ?_
      refine pf_RX1_47 rfl hv0 (shape_ord hv0).1 dX1_copyFrom_44 ?_
      obtain ⟨m43, e44, hF⟩ := nx_inv hF
      refine E_mem e44 ?_
      refine E_iconst (v := (0 : Int32)) rfl dX1_copyFrom_47 ?_
      refine E_istore_n (j := 2) (i := 2) (L' := [(2, .int (0 : Int32)), (0, .ref v0), (1, .ref v1)]) rfl (Nat.le_of_ble_eq_true rfl) rfl dX1_copyFrom_48 ?_
      refine E_sub [1, 2, 0] rfl ?_
      exact T_X1_copyFrom_49 hfl fl hr  fl _ _ _ _ hv0 hv1 hF
    · have hF := ite_f hF c42
      refine E_aload_n (j := 0) (i := 0) (q := 0) rfl rfl dX1_copyFrom_18 ?_
      obtain ⟨r45, h46, hF⟩ := bd_inv hF
      have h46 := ldA_inv h46
      refine gf_RX1_11 rfl hv0 (shape_ord hv0).1 h46.1 dX1_copyFrom_19 ?_
      refine E_iload_n (j := 2) (i := 2) (q := 2) rfl rfl dX1_copyFrom_22 ?_
      obtain ⟨h47, hF⟩ := gd_inv hF
      obtain ⟨r48, h49, hF⟩ := bd_inv hF
      have h49 := ldO_inv h49
      refine E_aald _ ⟨Nat.le_of_ble_eq_true rfl, Nat.le_of_ble_eq_true rfl⟩ h46.2 (shape_ord h46.2).1 h47 h49.1 dX1_copyFrom_23 ?_
      refine E_aload_n (j := 1) (i := 1) (q := 1) rfl rfl dX1_copyFrom_24 ?_
      obtain ⟨r50, h51, hF⟩ := bd_inv hF
      have h51 := ldA_inv h51
      refine gf_RX1_11 rfl hv1 (shape_ord hv1).1 h51.1 dX1_copyFrom_25 ?_
      refine E_iload_n (j := 2) (i := 2) (q := 2) rfl rfl dX1_copyFrom_28 ?_
      obtain ⟨h52, hF⟩ := gd_inv hF
      obtain ⟨r53, h54, hF⟩ := bd_inv hF
      have h54 := ldO_inv h54
      refine E_aald _ ⟨Nat.le_of_ble_eq_true rfl, Nat.le_of_ble_eq_true rfl⟩ h51.2 (shape_ord h51.2).1 h52 h54.1 dX1_copyFrom_29 ?_
      obtain ⟨q55, h56, hF⟩ := bd_inv hF
      refine E_callV (na := 1) (As := [.ref r53]) (S := []) (kc := 0) (ks := 0) (ci := 6) rfl rfl h49.2 (shape_ord h49.2).1 cwV_RX1_43 ⟨Nat.le_of_ble_eq_true rfl, Nat.le_of_ble_eq_true rfl⟩ (T_X4_copyFrom hfl fl _ _ _ h49.2 h54.2 _ h56) rfl rfl rfl (Nat.le_of_ble_eq_true rfl) dX1_copyFrom_30 ?_
      refine E_iinc (q := 2) (v := (v2 + (1 : Int32))) (L' := [(2, .int (v2 + (1 : Int32))), (0, .ref v0), (1, .ref v1)]) rfl rfl (Nat.le_of_ble_eq_true rfl) rfl dX1_copyFrom_33 ?_
      refine E_goto (tgt := 10) rfl dX1_copyFrom_36 ?_
      refine E_sub [1, 2, 0] rfl ?_
      exact ih _ _ _ _ hv0 hv1 hF
set_option maxHeartbeats 4000000 in
set_option maxRecDepth 100000 in
theorem T_X1_copyFrom {l : Launch} (hfl : l.stackTraces = false) (fl : Nat) (v0 : Nat) (v1 : Nat) (s : Mem) (hv0 : shape v0 = some (.inl 3)) (hv1 : shape v1 = some (.inl 3)) (ρ : Mem) (hF : F_X1_copyFrom fl v0 v1 s = some ρ) : MetN l X_X1_copyFrom false NF s [.ref v0, .ref v1] (.inr none, NF, ρ) := by
  unfold F_X1_copyFrom at hF
  obtain ⟨r, hr⟩ : ∃ r : Rs, r = (.inr none, NF, ρ) := ⟨_, rfl⟩
  rw [← hr]
  refine met_of_E rfl rfl (by decide +kernel) hfl rfl (Nat.le_of_ble_eq_true rfl) ?_
  show E l X_X1_copyFrom r false NF s 0 0 0 [(0, .ref v0), (1, .ref v1)] []
  refine E_aload_n (j := 0) (i := 0) (q := 0) rfl rfl dX1_copyFrom_0 ?_
  refine E_aload_n (j := 1) (i := 1) (q := 1) rfl rfl dX1_copyFrom_1 ?_
  refine gf_RX1_40 rfl hv1 (shape_ord hv1).1 dX1_copyFrom_2 ?_
  refine pf_RX1_40 rfl hv0 (shape_ord hv0).1 dX1_copyFrom_5 ?_
  obtain ⟨m57, e58, hF⟩ := nx_inv hF
  refine E_mem e58 ?_
  refine E_iconst (v := (0 : Int32)) rfl dX1_copyFrom_8 ?_
  refine E_istore_n (j := 2) (i := 2) (L' := [(2, .int (0 : Int32)), (0, .ref v0), (1, .ref v1)]) rfl (Nat.le_of_ble_eq_true rfl) rfl dX1_copyFrom_9 ?_
  refine E_sub [1, 2, 0] rfl ?_
  exact T_X1_copyFrom_10 hfl fl hr  fl _ _ _ _ hv0 hv1 hF
set_option maxHeartbeats 4000000 in
set_option maxRecDepth 100000 in
theorem T_X1_hasPitch {l : Launch} (hfl : l.stackTraces = false) (fl : Nat) (v0 : Nat) (v1 : Int32) (s : Mem) (hv0 : shape v0 = some (.inl 3)) (ρ : Int32) (hF : F_X1_hasPitch fl v0 v1 s = some ρ) : MetN l X_X1_hasPitch false NF s [.ref v0, .int v1] (.inr (some (.int ρ)), NF, s) := by
  unfold F_X1_hasPitch at hF
  obtain ⟨r, hr⟩ : ∃ r : Rs, r = (.inr (some (.int ρ)), NF, s) := ⟨_, rfl⟩
  rw [← hr]
  refine met_of_E rfl rfl (by decide +kernel) hfl rfl (Nat.le_of_ble_eq_true rfl) ?_
  show E l X_X1_hasPitch r false NF s 0 0 0 [(0, .ref v0), (1, .int v1)] []
  refine E_iload_n (j := 1) (i := 1) (q := 1) rfl rfl dX1_hasPitch_0 ?_
  refine E_if_lt (tgt := 16) rfl dX1_hasPitch_1 (fun c1 => ?_) (fun c1 => ?_)
  · have hF := ite_t hF c1
    refine E_iconst (v := (0 : Int32)) rfl dX1_hasPitch_16 ?_
    exact E_zret (ty := .boolean) (Or.inl rfl) rfl rfl (by cases hF; exact hr) dX1_hasPitch_17
  · have hF := ite_f hF c1
    refine E_iload_n (j := 1) (i := 1) (q := 1) rfl rfl dX1_hasPitch_4 ?_
    refine E_aload_n (j := 0) (i := 0) (q := 0) rfl rfl dX1_hasPitch_5 ?_
    refine gf_RX1_40 rfl hv0 (shape_ord hv0).1 dX1_hasPitch_6 ?_
    refine E_icmp_ge (tgt := 16) rfl dX1_hasPitch_9 (fun c2 => ?_) (fun c2 => ?_)
    · have hF := ite_t hF c2
      refine E_iconst (v := (0 : Int32)) rfl dX1_hasPitch_16 ?_
      exact E_zret (ty := .boolean) (Or.inl rfl) rfl rfl (by cases hF; exact hr) dX1_hasPitch_17
    · have hF := ite_f hF c2
      refine E_iconst (v := (1 : Int32)) rfl dX1_hasPitch_12 ?_
      refine E_goto (tgt := 17) rfl dX1_hasPitch_13 ?_
      exact E_zret (ty := .boolean) (Or.inl rfl) rfl rfl (by cases hF; exact hr) dX1_hasPitch_17
set_option maxHeartbeats 4000000 in
set_option maxRecDepth 100000 in
theorem T_X1_circuitOf {l : Launch} (hfl : l.stackTraces = false) (fl : Nat) (v0 : Nat) (v1 : Int32) (s : Mem) (hv0 : shape v0 = some (.inl 3)) (ρ : Int32) (hF : F_X1_circuitOf fl v0 v1 s = some ρ) : MetN l X_X1_circuitOf false NF s [.ref v0, .int v1] (.inr (some (.int ρ)), NF, s) := by
  unfold F_X1_circuitOf at hF
  obtain ⟨r, hr⟩ : ∃ r : Rs, r = (.inr (some (.int ρ)), NF, s) := ⟨_, rfl⟩
  rw [← hr]
  refine met_of_E rfl rfl (by decide +kernel) hfl rfl (Nat.le_of_ble_eq_true rfl) ?_
  show E l X_X1_circuitOf r false NF s 0 0 0 [(0, .ref v0), (1, .int v1)] []
  refine E_iload_n (j := 1) (i := 1) (q := 1) rfl rfl dX1_circuitOf_0 ?_
  refine E_if_lt (tgt := 24) rfl dX1_circuitOf_1 (fun c1 => ?_) (fun c1 => ?_)
  · have hF := ite_t hF c1
    refine E_iconst (v := (-1 : Int32)) rfl dX1_circuitOf_24 ?_
    exact E_iret (Or.inl rfl) rfl (by cases hF; exact hr) dX1_circuitOf_25
  · have hF := ite_f hF c1
    refine E_iload_n (j := 1) (i := 1) (q := 1) rfl rfl dX1_circuitOf_4 ?_
    refine E_aload_n (j := 0) (i := 0) (q := 0) rfl rfl dX1_circuitOf_5 ?_
    refine gf_RX1_40 rfl hv0 (shape_ord hv0).1 dX1_circuitOf_6 ?_
    refine E_icmp_ge (tgt := 24) rfl dX1_circuitOf_9 (fun c2 => ?_) (fun c2 => ?_)
    · have hF := ite_t hF c2
      refine E_iconst (v := (-1 : Int32)) rfl dX1_circuitOf_24 ?_
      exact E_iret (Or.inl rfl) rfl (by cases hF; exact hr) dX1_circuitOf_25
    · have hF := ite_f hF c2
      refine E_aload_n (j := 0) (i := 0) (q := 0) rfl rfl dX1_circuitOf_12 ?_
      obtain ⟨r3, h4, hF⟩ := bd_inv hF
      have h4 := ldA_inv h4
      refine gf_RX1_11 rfl hv0 (shape_ord hv0).1 h4.1 dX1_circuitOf_13 ?_
      refine E_iload_n (j := 1) (i := 1) (q := 1) rfl rfl dX1_circuitOf_16 ?_
      obtain ⟨h5, hF⟩ := gd_inv hF
      obtain ⟨r6, h7, hF⟩ := bd_inv hF
      have h7 := ldO_inv h7
      refine E_aald _ ⟨Nat.le_of_ble_eq_true rfl, Nat.le_of_ble_eq_true rfl⟩ h4.2 (shape_ord h4.2).1 h5 h7.1 dX1_circuitOf_17 ?_
      refine gf_RX1_62 rfl h7.2 (shape_ord h7.2).1 dX1_circuitOf_18 ?_
      refine E_goto (tgt := 25) rfl dX1_circuitOf_21 ?_
      exact E_iret (Or.inl rfl) rfl (by cases hF; exact hr) dX1_circuitOf_25
set_option maxHeartbeats 4000000 in
set_option maxRecDepth 100000 in
theorem T_X1_rateOf {l : Launch} (hfl : l.stackTraces = false) (fl : Nat) (v0 : Nat) (v1 : Int32) (s : Mem) (hv0 : shape v0 = some (.inl 3)) (ρ : Int32) (hF : F_X1_rateOf fl v0 v1 s = some ρ) : MetN l X_X1_rateOf false NF s [.ref v0, .int v1] (.inr (some (.int ρ)), NF, s) := by
  unfold F_X1_rateOf at hF
  obtain ⟨r, hr⟩ : ∃ r : Rs, r = (.inr (some (.int ρ)), NF, s) := ⟨_, rfl⟩
  rw [← hr]
  refine met_of_E rfl rfl (by decide +kernel) hfl rfl (Nat.le_of_ble_eq_true rfl) ?_
  show E l X_X1_rateOf r false NF s 0 0 0 [(0, .ref v0), (1, .int v1)] []
  refine E_aload_n (j := 0) (i := 0) (q := 0) rfl rfl dX1_rateOf_0 ?_
  refine E_iload_n (j := 1) (i := 1) (q := 1) rfl rfl dX1_rateOf_1 ?_
  obtain ⟨q1, h2, hF⟩ := bd_inv hF
  refine E_callV (na := 1) (As := [.int v1]) (S := []) (kc := 0) (ks := 0) (ci := 3) rfl rfl hv0 (shape_ord hv0).1 cwV_RX1_65 ⟨Nat.le_of_ble_eq_true rfl, Nat.le_of_ble_eq_true rfl⟩ (T_X1_hasPitch hfl fl _ _ _ hv0 _ h2) rfl rfl rfl (Nat.le_of_ble_eq_true rfl) dX1_rateOf_2 ?_
  refine E_if_eq (tgt := 20) rfl dX1_rateOf_5 (fun c3 => ?_) (fun c3 => ?_)
  · have hF := ite_t hF c3
    refine E_iconst (v := (0 : Int32)) rfl dX1_rateOf_20 ?_
    exact E_iret (Or.inl rfl) rfl (by cases hF; exact hr) dX1_rateOf_21
  · have hF := ite_f hF c3
    refine E_aload_n (j := 0) (i := 0) (q := 0) rfl rfl dX1_rateOf_8 ?_
    obtain ⟨r4, h5, hF⟩ := bd_inv hF
    have h5 := ldA_inv h5
    refine gf_RX1_11 rfl hv0 (shape_ord hv0).1 h5.1 dX1_rateOf_9 ?_
    refine E_iload_n (j := 1) (i := 1) (q := 1) rfl rfl dX1_rateOf_12 ?_
    obtain ⟨h6, hF⟩ := gd_inv hF
    obtain ⟨r7, h8, hF⟩ := bd_inv hF
    have h8 := ldO_inv h8
    refine E_aald _ ⟨Nat.le_of_ble_eq_true rfl, Nat.le_of_ble_eq_true rfl⟩ h5.2 (shape_ord h5.2).1 h6 h8.1 dX1_rateOf_13 ?_
    refine gf_RX1_69 rfl h8.2 (shape_ord h8.2).1 dX1_rateOf_14 ?_
    refine E_goto (tgt := 21) rfl dX1_rateOf_17 ?_
    exact E_iret (Or.inl rfl) rfl (by cases hF; exact hr) dX1_rateOf_21
set_option maxHeartbeats 4000000 in
set_option maxRecDepth 100000 in
theorem T_X1_areaOf {l : Launch} (hfl : l.stackTraces = false) (fl : Nat) (v0 : Nat) (v1 : Int32) (s : Mem) (hv0 : shape v0 = some (.inl 3)) (ρ : Int32) (hF : F_X1_areaOf fl v0 v1 s = some ρ) : MetN l X_X1_areaOf false NF s [.ref v0, .int v1] (.inr (some (.int ρ)), NF, s) := by
  unfold F_X1_areaOf at hF
  obtain ⟨r, hr⟩ : ∃ r : Rs, r = (.inr (some (.int ρ)), NF, s) := ⟨_, rfl⟩
  rw [← hr]
  refine met_of_E rfl rfl (by decide +kernel) hfl rfl (Nat.le_of_ble_eq_true rfl) ?_
  show E l X_X1_areaOf r false NF s 0 0 0 [(0, .ref v0), (1, .int v1)] []
  refine E_aload_n (j := 0) (i := 0) (q := 0) rfl rfl dX1_areaOf_0 ?_
  refine E_iload_n (j := 1) (i := 1) (q := 1) rfl rfl dX1_areaOf_1 ?_
  obtain ⟨q1, h2, hF⟩ := bd_inv hF
  refine E_callV (na := 1) (As := [.int v1]) (S := []) (kc := 0) (ks := 0) (ci := 3) rfl rfl hv0 (shape_ord hv0).1 cwV_RX1_65 ⟨Nat.le_of_ble_eq_true rfl, Nat.le_of_ble_eq_true rfl⟩ (T_X1_hasPitch hfl fl _ _ _ hv0 _ h2) rfl rfl rfl (Nat.le_of_ble_eq_true rfl) dX1_areaOf_2 ?_
  refine E_if_eq (tgt := 30) rfl dX1_areaOf_5 (fun c3 => ?_) (fun c3 => ?_)
  · have hF := ite_t hF c3
    refine E_iconst (v := (0 : Int32)) rfl dX1_areaOf_30 ?_
    exact E_iret (Or.inl rfl) rfl (by cases hF; exact hr) dX1_areaOf_31
  · have hF := ite_f hF c3
    refine E_aload_n (j := 0) (i := 0) (q := 0) rfl rfl dX1_areaOf_8 ?_
    obtain ⟨r4, h5, hF⟩ := bd_inv hF
    have h5 := ldA_inv h5
    refine gf_RX1_11 rfl hv0 (shape_ord hv0).1 h5.1 dX1_areaOf_9 ?_
    refine E_iload_n (j := 1) (i := 1) (q := 1) rfl rfl dX1_areaOf_12 ?_
    obtain ⟨h6, hF⟩ := gd_inv hF
    obtain ⟨r7, h8, hF⟩ := bd_inv hF
    have h8 := ldO_inv h8
    refine E_aald _ ⟨Nat.le_of_ble_eq_true rfl, Nat.le_of_ble_eq_true rfl⟩ h5.2 (shape_ord h5.2).1 h6 h8.1 dX1_areaOf_13 ?_
    refine gf_RX1_72 rfl h8.2 (shape_ord h8.2).1 dX1_areaOf_14 ?_
    refine E_aload_n (j := 0) (i := 0) (q := 0) rfl rfl dX1_areaOf_17 ?_
    obtain ⟨r9, h10, hF⟩ := bd_inv hF
    have h10 := ldA_inv h10
    refine gf_RX1_11 rfl hv0 (shape_ord hv0).1 h10.1 dX1_areaOf_18 ?_
    refine E_iload_n (j := 1) (i := 1) (q := 1) rfl rfl dX1_areaOf_21 ?_
    obtain ⟨h11, hF⟩ := gd_inv hF
    obtain ⟨r12, h13, hF⟩ := bd_inv hF
    have h13 := ldO_inv h13
    refine E_aald _ ⟨Nat.le_of_ble_eq_true rfl, Nat.le_of_ble_eq_true rfl⟩ h10.2 (shape_ord h10.2).1 h11 h13.1 dX1_areaOf_22 ?_
    refine gf_RX1_75 rfl h13.2 (shape_ord h13.2).1 dX1_areaOf_23 ?_
    refine E_imul dX1_areaOf_26 ?_
    refine E_goto (tgt := 31) rfl dX1_areaOf_27 ?_
    exact E_iret (Or.inl rfl) rfl (by cases hF; exact hr) dX1_areaOf_31
set_option maxHeartbeats 4000000 in
set_option maxRecDepth 100000 in
theorem T_X4_takes_75 {l : Launch} (hfl : l.stackTraces = false) (fl : Nat) {r : Rs} {ρ : Int32} {s : Mem} (hr : r = (.inr (some (.int ρ)), NF, s)) (v0 : Nat) (v1 : Nat) (hv0 : shape v0 = some (.inl 6)) (hv1 : shape v1 = some (.inl 5)) (hF : B_X4_takes_75 fl s v0 v1 = some ρ) : E l X_X4_takes r false NF s 0 0 75 [(0, .ref v0), (1, .ref v1)] [] := by
  unfold B_X4_takes_75 at hF
  refine E_aload_n (j := 1) (i := 1) (q := 1) rfl rfl dX4_takes_75 ?_
  refine gf_RX4_32 rfl hv1 (shape_ord hv1).1 dX4_takes_76 ?_
  refine E_if_eq (tgt := 90) rfl dX4_takes_79 (fun c1 => ?_) (fun c1 => ?_)
  · have hF := ite_t hF c1
    refine E_iconst (v := (1 : Int32)) rfl dX4_takes_90 ?_
    refine E_goto (tgt := 95) rfl dX4_takes_91 ?_
    exact E_zret (ty := .boolean) (Or.inl rfl) rfl rfl (by cases hF; exact hr) dX4_takes_95
  · have hF := ite_f hF c1
    refine E_aload_n (j := 0) (i := 0) (q := 0) rfl rfl dX4_takes_82 ?_
    refine gf_RX4_21 rfl hv0 (shape_ord hv0).1 dX4_takes_83 ?_
    refine E_iconst (v := (-1 : Int32)) rfl dX4_takes_86 ?_
    refine E_icmp_eq (tgt := 94) rfl dX4_takes_87 (fun c2 => ?_) (fun c2 => ?_)
    · have hF := ite_t hF c2
      refine E_iconst (v := (0 : Int32)) rfl dX4_takes_94 ?_
      exact E_zret (ty := .boolean) (Or.inl rfl) rfl rfl (by cases hF; exact hr) dX4_takes_95
    · have hF := ite_f hF c2
      refine E_iconst (v := (1 : Int32)) rfl dX4_takes_90 ?_
      refine E_goto (tgt := 95) rfl dX4_takes_91 ?_
      exact E_zret (ty := .boolean) (Or.inl rfl) rfl rfl (by cases hF; exact hr) dX4_takes_95
set_option maxHeartbeats 4000000 in
set_option maxRecDepth 100000 in
theorem T_X4_takes_55 {l : Launch} (hfl : l.stackTraces = false) (fl : Nat) {r : Rs} {ρ : Int32} {s : Mem} (hr : r = (.inr (some (.int ρ)), NF, s)) (v0 : Nat) (v1 : Nat) (v2 : Int32) (w0 : Int32) (hv0 : shape v0 = some (.inl 6)) (hv1 : shape v1 = some (.inl 5)) (hF : B_X4_takes_55 fl s v0 v1 v2 w0 = some ρ) : E l X_X4_takes r false NF s 0 0 55 [(0, .ref v0), (1, .ref v1), (2, .int v2)] [.int w0] := by
  unfold B_X4_takes_55 at hF
  refine E_istore_n (j := 3) (i := 3) (L' := [(3, .int w0), (0, .ref v0), (1, .ref v1), (2, .int v2)]) rfl (Nat.le_of_ble_eq_true rfl) rfl dX4_takes_55 ?_
  refine E_aload_n (j := 1) (i := 1) (q := 2) rfl rfl dX4_takes_56 ?_
  refine gf_RX4_31 rfl hv1 (shape_ord hv1).1 dX4_takes_57 ?_
  refine E_aload_n (j := 0) (i := 0) (q := 1) rfl rfl dX4_takes_60 ?_
  refine gf_RX4_9 rfl hv0 (shape_ord hv0).1 dX4_takes_61 ?_
  refine E_icmp_gt (tgt := 94) rfl dX4_takes_64 (fun c3 => ?_) (fun c3 => ?_)
  · have hF := ite_t hF c3
    refine E_iconst (v := (0 : Int32)) rfl dX4_takes_94 ?_
    exact E_zret (ty := .boolean) (Or.inl rfl) rfl rfl (by cases hF; exact hr) dX4_takes_95
  · have hF := ite_f hF c3
    refine E_iload_n (j := 2) (i := 2) (q := 3) rfl rfl dX4_takes_67 ?_
    refine E_if_ne (tgt := 75) rfl dX4_takes_68 (fun c4 => ?_) (fun c4 => ?_)
    · have hF := ite_f hF c4
      refine E_sub [1, 2] rfl ?_
      exact T_X4_takes_75 hfl fl hr  _ _ hv0 hv1 hF
    · have hF := ite_t hF c4
      refine E_iload_n (j := 3) (i := 3) (q := 0) rfl rfl dX4_takes_71 ?_
      refine E_if_eq (tgt := 94) rfl dX4_takes_72 (fun c5 => ?_) (fun c5 => ?_)
      · have hF := ite_t hF c5
        refine E_iconst (v := (0 : Int32)) rfl dX4_takes_94 ?_
        exact E_zret (ty := .boolean) (Or.inl rfl) rfl rfl (by cases hF; exact hr) dX4_takes_95
      · have hF := ite_f hF c5
        refine E_sub [1, 2] rfl ?_
        exact T_X4_takes_75 hfl fl hr  _ _ hv0 hv1 hF
set_option maxHeartbeats 4000000 in
set_option maxRecDepth 100000 in
theorem T_X4_takes_54 {l : Launch} (hfl : l.stackTraces = false) (fl : Nat) {r : Rs} {ρ : Int32} {s : Mem} (hr : r = (.inr (some (.int ρ)), NF, s)) (v0 : Nat) (v1 : Nat) (v2 : Int32) (hv0 : shape v0 = some (.inl 6)) (hv1 : shape v1 = some (.inl 5)) (hF : B_X4_takes_54 fl s v0 v1 v2 = some ρ) : E l X_X4_takes r false NF s 0 0 54 [(0, .ref v0), (1, .ref v1), (2, .int v2)] [] := by
  unfold B_X4_takes_54 at hF
  refine E_iconst (v := (0 : Int32)) rfl dX4_takes_54 ?_
  refine E_sub [0, 1, 2] rfl ?_
  exact T_X4_takes_55 hfl fl hr  _ _ _ _ hv0 hv1 hF
set_option maxHeartbeats 4000000 in
set_option maxRecDepth 100000 in
theorem T_X4_takes_27 {l : Launch} (hfl : l.stackTraces = false) (fl : Nat) {r : Rs} {ρ : Int32} {s : Mem} (hr : r = (.inr (some (.int ρ)), NF, s)) (v0 : Nat) (v1 : Nat) (w0 : Int32) (hv0 : shape v0 = some (.inl 6)) (hv1 : shape v1 = some (.inl 5)) (hF : B_X4_takes_27 fl s v0 v1 w0 = some ρ) : E l X_X4_takes r false NF s 0 0 27 [(0, .ref v0), (1, .ref v1)] [.int w0] := by
  unfold B_X4_takes_27 at hF
  refine E_istore_n (j := 2) (i := 2) (L' := [(2, .int w0), (0, .ref v0), (1, .ref v1)]) rfl (Nat.le_of_ble_eq_true rfl) rfl dX4_takes_27 ?_
  refine E_aload_n (j := 1) (i := 1) (q := 2) rfl rfl dX4_takes_28 ?_
  refine gf_RX4_30 rfl hv1 (shape_ord hv1).1 dX4_takes_29 ?_
  refine E_aload_n (j := 0) (i := 0) (q := 1) rfl rfl dX4_takes_32 ?_
  refine gf_RX4_15 rfl hv0 (shape_ord hv0).1 dX4_takes_33 ?_
  refine E_icmp_gt (tgt := 54) rfl dX4_takes_36 (fun c6 => ?_) (fun c6 => ?_)
  · have hF := ite_t hF c6
    refine E_sub [1, 2, 0] rfl ?_
    exact T_X4_takes_54 hfl fl hr  _ _ _ hv0 hv1 hF
  · have hF := ite_f hF c6
    refine E_aload_n (j := 1) (i := 1) (q := 2) rfl rfl dX4_takes_39 ?_
    refine gf_RX4_27 rfl hv1 (shape_ord hv1).1 dX4_takes_40 ?_
    refine E_aload_n (j := 0) (i := 0) (q := 1) rfl rfl dX4_takes_43 ?_
    refine gf_RX4_18 rfl hv0 (shape_ord hv0).1 dX4_takes_44 ?_
    refine E_icmp_gt (tgt := 54) rfl dX4_takes_47 (fun c7 => ?_) (fun c7 => ?_)
    · have hF := ite_t hF c7
      refine E_sub [1, 2, 0] rfl ?_
      exact T_X4_takes_54 hfl fl hr  _ _ _ hv0 hv1 hF
    · have hF := ite_f hF c7
      refine E_iconst (v := (1 : Int32)) rfl dX4_takes_50 ?_
      refine E_goto (tgt := 55) rfl dX4_takes_51 ?_
      refine E_sub [1, 2, 0] rfl ?_
      exact T_X4_takes_55 hfl fl hr  _ _ _ _ hv0 hv1 hF
set_option maxHeartbeats 4000000 in
set_option maxRecDepth 100000 in
theorem T_X4_takes_26 {l : Launch} (hfl : l.stackTraces = false) (fl : Nat) {r : Rs} {ρ : Int32} {s : Mem} (hr : r = (.inr (some (.int ρ)), NF, s)) (v0 : Nat) (v1 : Nat) (hv0 : shape v0 = some (.inl 6)) (hv1 : shape v1 = some (.inl 5)) (hF : B_X4_takes_26 fl s v0 v1 = some ρ) : E l X_X4_takes r false NF s 0 0 26 [(0, .ref v0), (1, .ref v1)] [] := by
  unfold B_X4_takes_26 at hF
  refine E_iconst (v := (0 : Int32)) rfl dX4_takes_26 ?_
  refine E_sub [0, 1] rfl ?_
  exact T_X4_takes_27 hfl fl hr  _ _ _ hv0 hv1 hF
set_option maxHeartbeats 4000000 in
set_option maxRecDepth 100000 in
theorem T_X4_takes {l : Launch} (hfl : l.stackTraces = false) (fl : Nat) (v0 : Nat) (v1 : Nat) (s : Mem) (hv0 : shape v0 = some (.inl 6)) (hv1 : shape v1 = some (.inl 5)) (ρ : Int32) (hF : F_X4_takes fl v0 v1 s = some ρ) : MetN l X_X4_takes false NF s [.ref v0, .ref v1] (.inr (some (.int ρ)), NF, s) := by
  unfold F_X4_takes at hF
  obtain ⟨r, hr⟩ : ∃ r : Rs, r = (.inr (some (.int ρ)), NF, s) := ⟨_, rfl⟩
  rw [← hr]
  refine met_of_E rfl rfl (by decide +kernel) hfl rfl (Nat.le_of_ble_eq_true rfl) ?_
  show E l X_X4_takes r false NF s 0 0 0 [(0, .ref v0), (1, .ref v1)] []
  refine E_aload_n (j := 1) (i := 1) (q := 1) rfl rfl dX4_takes_0 ?_
  refine gf_RX4_27 rfl hv1 (shape_ord hv1).1 dX4_takes_1 ?_
  refine E_aload_n (j := 0) (i := 0) (q := 0) rfl rfl dX4_takes_4 ?_
  refine gf_RX4_15 rfl hv0 (shape_ord hv0).1 dX4_takes_5 ?_
  refine E_icmp_gt (tgt := 26) rfl dX4_takes_8 (fun c8 => ?_) (fun c8 => ?_)
  · have hF := ite_t hF c8
    refine E_sub [0, 1] rfl ?_
    exact T_X4_takes_26 hfl fl hr  _ _ hv0 hv1 hF
  · have hF := ite_f hF c8
    refine E_aload_n (j := 1) (i := 1) (q := 1) rfl rfl dX4_takes_11 ?_
    refine gf_RX4_30 rfl hv1 (shape_ord hv1).1 dX4_takes_12 ?_
    refine E_aload_n (j := 0) (i := 0) (q := 0) rfl rfl dX4_takes_15 ?_
    refine gf_RX4_18 rfl hv0 (shape_ord hv0).1 dX4_takes_16 ?_
    refine E_icmp_gt (tgt := 26) rfl dX4_takes_19 (fun c9 => ?_) (fun c9 => ?_)
    · have hF := ite_t hF c9
      refine E_sub [0, 1] rfl ?_
      exact T_X4_takes_26 hfl fl hr  _ _ hv0 hv1 hF
    · have hF := ite_f hF c9
      refine E_iconst (v := (1 : Int32)) rfl dX4_takes_22 ?_
      refine E_goto (tgt := 27) rfl dX4_takes_23 ?_
      refine E_sub [0, 1] rfl ?_
      exact T_X4_takes_27 hfl fl hr  _ _ _ hv0 hv1 hF
set_option maxHeartbeats 4000000 in
set_option maxRecDepth 100000 in
theorem T_X1_hasFit {l : Launch} (hfl : l.stackTraces = false) (fl : Nat) (v0 : Nat) (v1 : Nat) (v2 : Int32) (s : Mem) (hv0 : shape v0 = some (.inl 3)) (hv1 : shape v1 = some (.inl 5)) (ρ : Int32) (hF : F_X1_hasFit fl v0 v1 v2 s = some ρ) : MetN l X_X1_hasFit false NF s [.ref v0, .ref v1, .int v2] (.inr (some (.int ρ)), NF, s) := by
  unfold F_X1_hasFit at hF
  obtain ⟨r, hr⟩ : ∃ r : Rs, r = (.inr (some (.int ρ)), NF, s) := ⟨_, rfl⟩
  rw [← hr]
  refine met_of_E rfl rfl (by decide +kernel) hfl rfl (Nat.le_of_ble_eq_true rfl) ?_
  show E l X_X1_hasFit r false NF s 0 0 0 [(0, .ref v0), (1, .ref v1), (2, .int v2)] []
  refine E_aload_n (j := 0) (i := 0) (q := 0) rfl rfl dX1_hasFit_0 ?_
  refine E_iload_n (j := 2) (i := 2) (q := 2) rfl rfl dX1_hasFit_1 ?_
  obtain ⟨q1, h2, hF⟩ := bd_inv hF
  refine E_callV (na := 1) (As := [.int v2]) (S := []) (kc := 0) (ks := 0) (ci := 3) rfl rfl hv0 (shape_ord hv0).1 cwV_RX1_65 ⟨Nat.le_of_ble_eq_true rfl, Nat.le_of_ble_eq_true rfl⟩ (T_X1_hasPitch hfl fl _ _ _ hv0 _ h2) rfl rfl rfl (Nat.le_of_ble_eq_true rfl) dX1_hasFit_2 ?_
  refine E_if_eq (tgt := 25) rfl dX1_hasFit_5 (fun c3 => ?_) (fun c3 => ?_)
  · have hF := ite_t hF c3
    refine E_iconst (v := (0 : Int32)) rfl dX1_hasFit_25 ?_
    exact E_zret (ty := .boolean) (Or.inl rfl) rfl rfl (by cases hF; exact hr) dX1_hasFit_26
  · have hF := ite_f hF c3
    refine E_aload_n (j := 0) (i := 0) (q := 0) rfl rfl dX1_hasFit_8 ?_
    obtain ⟨r4, h5, hF⟩ := bd_inv hF
    have h5 := ldA_inv h5
    refine gf_RX1_11 rfl hv0 (shape_ord hv0).1 h5.1 dX1_hasFit_9 ?_
    refine E_iload_n (j := 2) (i := 2) (q := 2) rfl rfl dX1_hasFit_12 ?_
    obtain ⟨h6, hF⟩ := gd_inv hF
    obtain ⟨r7, h8, hF⟩ := bd_inv hF
    have h8 := ldO_inv h8
    refine E_aald _ ⟨Nat.le_of_ble_eq_true rfl, Nat.le_of_ble_eq_true rfl⟩ h5.2 (shape_ord h5.2).1 h6 h8.1 dX1_hasFit_13 ?_
    refine E_aload_n (j := 1) (i := 1) (q := 1) rfl rfl dX1_hasFit_14 ?_
    obtain ⟨q9, h10, hF⟩ := bd_inv hF
    refine E_callV (na := 1) (As := [.ref v1]) (S := []) (kc := 0) (ks := 0) (ci := 6) rfl rfl h8.2 (shape_ord h8.2).1 cwV_RX1_78 ⟨Nat.le_of_ble_eq_true rfl, Nat.le_of_ble_eq_true rfl⟩ (T_X4_takes hfl fl _ _ _ h8.2 hv1 _ h10) rfl rfl rfl (Nat.le_of_ble_eq_true rfl) dX1_hasFit_15 ?_
    refine E_if_eq (tgt := 25) rfl dX1_hasFit_18 (fun c11 => ?_) (fun c11 => ?_)
    · have hF := ite_t hF c11
      refine E_iconst (v := (0 : Int32)) rfl dX1_hasFit_25 ?_
      exact E_zret (ty := .boolean) (Or.inl rfl) rfl rfl (by cases hF; exact hr) dX1_hasFit_26
    · have hF := ite_f hF c11
      refine E_iconst (v := (1 : Int32)) rfl dX1_hasFit_21 ?_
      refine E_goto (tgt := 26) rfl dX1_hasFit_22 ?_
      exact E_zret (ty := .boolean) (Or.inl rfl) rfl rfl (by cases hF; exact hr) dX1_hasFit_26
set_option maxHeartbeats 4000000 in
set_option maxRecDepth 100000 in
theorem T_X1_isStillToCome {l : Launch} (hfl : l.stackTraces = false) (fl : Nat) (v0 : Nat) (v1 : Nat) (s : Mem) (hv0 : shape v0 = some (.inl 3)) (hv1 : shape v1 = some (.inl 5)) (ρ : Int32) (hF : F_X1_isStillToCome fl v0 v1 s = some ρ) : MetN l X_X1_isStillToCome false NF s [.ref v0, .ref v1] (.inr (some (.int ρ)), NF, s) := by
  unfold F_X1_isStillToCome at hF
  obtain ⟨r, hr⟩ : ∃ r : Rs, r = (.inr (some (.int ρ)), NF, s) := ⟨_, rfl⟩
  rw [← hr]
  refine met_of_E rfl rfl (by decide +kernel) hfl rfl (Nat.le_of_ble_eq_true rfl) ?_
  show E l X_X1_isStillToCome r false NF s 0 0 0 [(0, .ref v0), (1, .ref v1)] []
  refine E_aload_n (j := 1) (i := 1) (q := 1) rfl rfl dX1_isStillToCome_0 ?_
  refine gf_RX1_82 rfl hv1 (shape_ord hv1).1 dX1_isStillToCome_1 ?_
  refine E_if_eq (tgt := 22) rfl dX1_isStillToCome_4 (fun c1 => ?_) (fun c1 => ?_)
  · have hF := ite_t hF c1
    refine E_iconst (v := (0 : Int32)) rfl dX1_isStillToCome_22 ?_
    exact E_zret (ty := .boolean) (Or.inl rfl) rfl rfl (by cases hF; exact hr) dX1_isStillToCome_23
  · have hF := ite_f hF c1
    refine E_aload_n (j := 1) (i := 1) (q := 1) rfl rfl dX1_isStillToCome_7 ?_
    refine gf_RX1_86 rfl hv1 (shape_ord hv1).1 dX1_isStillToCome_8 ?_
    refine E_aload_n (j := 0) (i := 0) (q := 0) rfl rfl dX1_isStillToCome_11 ?_
    refine gf_RX1_59 rfl hv0 (shape_ord hv0).1 dX1_isStillToCome_12 ?_
    refine E_icmp_lt (tgt := 22) rfl dX1_isStillToCome_15 (fun c2 => ?_) (fun c2 => ?_)
    · have hF := ite_t hF c2
      refine E_iconst (v := (0 : Int32)) rfl dX1_isStillToCome_22 ?_
      exact E_zret (ty := .boolean) (Or.inl rfl) rfl rfl (by cases hF; exact hr) dX1_isStillToCome_23
    · have hF := ite_f hF c2
      refine E_iconst (v := (1 : Int32)) rfl dX1_isStillToCome_18 ?_
      refine E_goto (tgt := 23) rfl dX1_isStillToCome_19 ?_
      exact E_zret (ty := .boolean) (Or.inl rfl) rfl rfl (by cases hF; exact hr) dX1_isStillToCome_23
set_option maxHeartbeats 4000000 in
set_option maxRecDepth 100000 in
theorem T_X1_makePitch {l : Launch} (hfl : l.stackTraces = false) (fl : Nat) (v0 : Nat) (v1 : Int32) (v2 : Int32) (v3 : Int32) (v4 : Int32) (s : Mem) (hv0 : shape v0 = some (.inl 3)) (ρ : (Int32 × Mem)) (hF : F_X1_makePitch fl v0 v1 v2 v3 v4 s = some ρ) : MetN l X_X1_makePitch false NF s [.ref v0, .int v1, .int v2, .int v3, .int v4] (.inr (some (.int ρ.1)), NF, ρ.2) := by
  unfold F_X1_makePitch at hF
  obtain ⟨r, hr⟩ : ∃ r : Rs, r = (.inr (some (.int ρ.1)), NF, ρ.2) := ⟨_, rfl⟩
  rw [← hr]
  refine met_of_E rfl rfl (by decide +kernel) hfl rfl (Nat.le_of_ble_eq_true rfl) ?_
  show E l X_X1_makePitch r false NF s 0 0 0 [(0, .ref v0), (1, .int v1), (2, .int v2), (3, .int v3), (4, .int v4)] []
  refine E_aload_n (j := 0) (i := 0) (q := 0) rfl rfl dX1_makePitch_0 ?_
  obtain ⟨r1, h2, hF⟩ := bd_inv hF
  have h2 := ldA_inv h2
  refine gf_RX1_11 rfl hv0 (shape_ord hv0).1 h2.1 dX1_makePitch_1 ?_
  refine E_aload_n (j := 0) (i := 0) (q := 0) rfl rfl dX1_makePitch_4 ?_
  refine gf_RX1_40 rfl hv0 (shape_ord hv0).1 dX1_makePitch_5 ?_
  obtain ⟨h3, hF⟩ := gd_inv hF
  obtain ⟨r4, h5, hF⟩ := bd_inv hF
  have h5 := ldO_inv h5
  refine E_aald _ ⟨Nat.le_of_ble_eq_true rfl, Nat.le_of_ble_eq_true rfl⟩ h2.2 (shape_ord h2.2).1 h3 h5.1 dX1_makePitch_8 ?_
  refine E_astore (L' := [(5, .ref r4), (0, .ref v0), (1, .int v1), (2, .int v2), (3, .int v3), (4, .int v4)]) (Nat.le_of_ble_eq_true rfl) rfl dX1_makePitch_9 ?_
  refine E_aload (q := 0) rfl dX1_makePitch_11 ?_
  refine E_iload_n (j := 1) (i := 1) (q := 2) rfl rfl dX1_makePitch_13 ?_
  refine pf_RX1_89 rfl h5.2 (shape_ord h5.2).1 dX1_makePitch_14 ?_
  obtain ⟨m6, e7, hF⟩ := nx_inv hF
  refine E_mem e7 ?_
  refine E_aload (q := 0) rfl dX1_makePitch_17 ?_
  refine E_iload_n (j := 2) (i := 2) (q := 3) rfl rfl dX1_makePitch_19 ?_
  refine pf_RX1_72 rfl h5.2 (shape_ord h5.2).1 dX1_makePitch_20 ?_
  obtain ⟨m8, e9, hF⟩ := nx_inv hF
  refine E_mem e9 ?_
  refine E_aload (q := 0) rfl dX1_makePitch_23 ?_
  refine E_iload_n (j := 3) (i := 3) (q := 4) rfl rfl dX1_makePitch_25 ?_
  refine pf_RX1_75 rfl h5.2 (shape_ord h5.2).1 dX1_makePitch_26 ?_
  obtain ⟨m10, e11, hF⟩ := nx_inv hF
  refine E_mem e11 ?_
  refine E_aload (q := 0) rfl dX1_makePitch_29 ?_
  refine E_iload (q := 5) rfl dX1_makePitch_31 ?_
  refine pf_RX1_62 rfl h5.2 (shape_ord h5.2).1 dX1_makePitch_33 ?_
  obtain ⟨m12, e13, hF⟩ := nx_inv hF
  refine E_mem e13 ?_
  refine E_aload (q := 0) rfl dX1_makePitch_36 ?_
  refine E_bipush (v := (10 : Int32)) rfl dX1_makePitch_38 ?_
  refine pf_RX1_69 rfl h5.2 (shape_ord h5.2).1 dX1_makePitch_40 ?_
  obtain ⟨m14, e15, hF⟩ := nx_inv hF
  refine E_mem e15 ?_
  refine E_aload_n (j := 0) (i := 0) (q := 1) rfl rfl dX1_makePitch_43 ?_
  refine E_dup rfl dX1_makePitch_44 ?_
  refine gf_RX1_40 rfl hv0 (shape_ord hv0).1 dX1_makePitch_45 ?_
  refine E_iconst (v := (1 : Int32)) rfl dX1_makePitch_48 ?_
  refine E_iadd dX1_makePitch_49 ?_
  refine pf_RX1_40 rfl hv0 (shape_ord hv0).1 dX1_makePitch_50 ?_
  obtain ⟨m16, e17, hF⟩ := nx_inv hF
  refine E_mem e17 ?_
  refine E_aload_n (j := 0) (i := 0) (q := 1) rfl rfl dX1_makePitch_53 ?_
  refine gf_RX1_40 rfl hv0 (shape_ord hv0).1 dX1_makePitch_54 ?_
  refine E_iconst (v := (1 : Int32)) rfl dX1_makePitch_57 ?_
  refine E_isub dX1_makePitch_58 ?_
  exact E_iret (Or.inl rfl) rfl (by cases hF; exact hr) dX1_makePitch_59
set_option maxHeartbeats 4000000 in
set_option maxRecDepth 100000 in
theorem T_X1_makeSeason {l : Launch} (hfl : l.stackTraces = false) (fl : Nat) (v0 : Nat) (v1 : Int32) (v2 : Int32) (v3 : Int32) (s : Mem) (hv0 : shape v0 = some (.inl 3)) (ρ : (Int32 × Mem)) (hF : F_X1_makeSeason fl v0 v1 v2 v3 s = some ρ) : MetN l X_X1_makeSeason false NF s [.ref v0, .int v1, .int v2, .int v3] (.inr (some (.int ρ.1)), NF, ρ.2) := by
  unfold F_X1_makeSeason at hF
  obtain ⟨r, hr⟩ : ∃ r : Rs, r = (.inr (some (.int ρ.1)), NF, ρ.2) := ⟨_, rfl⟩
  rw [← hr]
  refine met_of_E rfl rfl (by decide +kernel) hfl rfl (Nat.le_of_ble_eq_true rfl) ?_
  show E l X_X1_makeSeason r false NF s 0 0 0 [(0, .ref v0), (1, .int v1), (2, .int v2), (3, .int v3)] []
  refine E_aload_n (j := 0) (i := 0) (q := 0) rfl rfl dX1_makeSeason_0 ?_
  obtain ⟨r1, h2, hF⟩ := bd_inv hF
  have h2 := ldA_inv h2
  refine gf_RX1_27 rfl hv0 (shape_ord hv0).1 h2.1 dX1_makeSeason_1 ?_
  refine E_aload_n (j := 0) (i := 0) (q := 0) rfl rfl dX1_makeSeason_4 ?_
  refine gf_RX1_53 rfl hv0 (shape_ord hv0).1 dX1_makeSeason_5 ?_
  obtain ⟨h3, hF⟩ := gd_inv hF
  obtain ⟨r4, h5, hF⟩ := bd_inv hF
  have h5 := ldO_inv h5
  refine E_aald _ ⟨Nat.le_of_ble_eq_true rfl, Nat.le_of_ble_eq_true rfl⟩ h2.2 (shape_ord h2.2).1 h3 h5.1 dX1_makeSeason_8 ?_
  refine E_astore (L' := [(4, .ref r4), (0, .ref v0), (1, .int v1), (2, .int v2), (3, .int v3)]) (Nat.le_of_ble_eq_true rfl) rfl dX1_makeSeason_9 ?_
  refine E_aload (q := 0) rfl dX1_makeSeason_11 ?_
  refine E_iload_n (j := 1) (i := 1) (q := 2) rfl rfl dX1_makeSeason_13 ?_
  refine pf_RX1_92 rfl h5.2 (shape_ord h5.2).1 dX1_makeSeason_14 ?_
  obtain ⟨m6, e7, hF⟩ := nx_inv hF
  refine E_mem e7 ?_
  refine E_aload (q := 0) rfl dX1_makeSeason_17 ?_
  refine E_iload_n (j := 2) (i := 2) (q := 3) rfl rfl dX1_makeSeason_19 ?_
  refine pf_RX1_93 rfl h5.2 (shape_ord h5.2).1 dX1_makeSeason_20 ?_
  obtain ⟨m8, e9, hF⟩ := nx_inv hF
  refine E_mem e9 ?_
  refine E_aload (q := 0) rfl dX1_makeSeason_23 ?_
  refine E_iload_n (j := 3) (i := 3) (q := 4) rfl rfl dX1_makeSeason_25 ?_
  refine pf_RX1_96 rfl h5.2 (shape_ord h5.2).1 dX1_makeSeason_26 ?_
  obtain ⟨m10, e11, hF⟩ := nx_inv hF
  refine E_mem e11 ?_
  refine E_aload_n (j := 0) (i := 0) (q := 1) rfl rfl dX1_makeSeason_29 ?_
  refine E_dup rfl dX1_makeSeason_30 ?_
  refine gf_RX1_53 rfl hv0 (shape_ord hv0).1 dX1_makeSeason_31 ?_
  refine E_iconst (v := (1 : Int32)) rfl dX1_makeSeason_34 ?_
  refine E_iadd dX1_makeSeason_35 ?_
  refine pf_RX1_53 rfl hv0 (shape_ord hv0).1 dX1_makeSeason_36 ?_
  obtain ⟨m12, e13, hF⟩ := nx_inv hF
  refine E_mem e13 ?_
  refine E_aload_n (j := 0) (i := 0) (q := 1) rfl rfl dX1_makeSeason_39 ?_
  refine gf_RX1_53 rfl hv0 (shape_ord hv0).1 dX1_makeSeason_40 ?_
  refine E_iconst (v := (1 : Int32)) rfl dX1_makeSeason_43 ?_
  refine E_isub dX1_makeSeason_44 ?_
  exact E_iret (Or.inl rfl) rfl (by cases hF; exact hr) dX1_makeSeason_45
set_option maxHeartbeats 4000000 in
set_option maxRecDepth 100000 in
theorem T_X1_removeSeason_2 {l : Launch} (hfl : l.stackTraces = false) (fl : Nat) {r : Rs} {ρ : Mem} (hr : r = (.inr none, NF, ρ)) : ∀ (n : Nat) (v0 : Nat) (v2 : Int32) (s : Mem) (hv0 : shape v0 = some (.inl 3)), B_X1_removeSeason_2 fl n v0 v2 s = some ρ → E l X_X1_removeSeason r false NF s 0 0 2 [(0, .ref v0), (2, .int v2)] [] := by
  intro n
  induction n with
  | zero =>
    intro v0 v2 s hv0 hF
    cases hF
  | succ n ih =>
    intro v0 v2 s hv0 hF
    refine E_iload_n (j := 2) (i := 2) (q := 1) rfl rfl dX1_removeSeason_2 ?_
    refine E_iconst (v := (1 : Int32)) rfl dX1_removeSeason_3 ?_
    refine E_iadd dX1_removeSeason_4 ?_
    refine E_aload_n (j := 0) (i := 0) (q := 0) rfl rfl dX1_removeSeason_5 ?_
    refine gf_RX1_53 rfl hv0 (shape_ord hv0).1 dX1_removeSeason_6 ?_
    refine E_icmp_ge (tgt := 35) rfl dX1_removeSeason_9 (fun c1 => ?_) (fun c1 => ?_)
    · have hF := ite_t hF c1
      refine E_aload_n (j := 0) (i := 0) (q := 0) rfl rfl dX1_removeSeason_35 ?_
      refine E_dup rfl dX1_removeSeason_36 ?_
      refine gf_RX1_53 rfl hv0 (shape_ord hv0).1 dX1_removeSeason_37 ?_
      refine E_iconst (v := (1 : Int32)) rfl dX1_removeSeason_40 ?_
      refine E_isub dX1_removeSeason_41 ?_
      refine pf_RX1_53 rfl hv0 (shape_ord hv0).1 dX1_removeSeason_42 ?_
      obtain ⟨m2, e3, hF⟩ := nx_inv hF
      refine E_mem e3 ?_
      exact E_vret (Or.inl rfl) rfl (by cases hF; exact hr) dX1_removeSeason_45
    · have hF := ite_f hF c1
      refine E_aload_n (j := 0) (i := 0) (q := 0) rfl rfl dX1_removeSeason_12 ?_
      obtain ⟨r4, h5, hF⟩ := bd_inv hF
      have h5 := ldA_inv h5
      refine gf_RX1_27 rfl hv0 (shape_ord hv0).1 h5.1 dX1_removeSeason_13 ?_
      refine E_iload_n (j := 2) (i := 2) (q := 1) rfl rfl dX1_removeSeason_16 ?_
      obtain ⟨h6, hF⟩ := gd_inv hF
      obtain ⟨r7, h8, hF⟩ := bd_inv hF
      have h8 := ldO_inv h8
      refine E_aald _ ⟨Nat.le_of_ble_eq_true rfl, Nat.le_of_ble_eq_true rfl⟩ h5.2 (shape_ord h5.2).1 h6 h8.1 dX1_removeSeason_17 ?_
      refine E_aload_n (j := 0) (i := 0) (q := 0) rfl rfl dX1_removeSeason_18 ?_
      obtain ⟨r9, h10, hF⟩ := bd_inv hF
      have h10 := ldA_inv h10
      refine gf_RX1_27 rfl hv0 (shape_ord hv0).1 h10.1 dX1_removeSeason_19 ?_
      refine E_iload_n (j := 2) (i := 2) (q := 1) rfl rfl dX1_removeSeason_22 ?_
      refine E_iconst (v := (1 : Int32)) rfl dX1_removeSeason_23 ?_
      refine E_iadd dX1_removeSeason_24 ?_
      obtain ⟨h11, hF⟩ := gd_inv hF
      obtain ⟨r12, h13, hF⟩ := bd_inv hF
      have h13 := ldO_inv h13
      refine E_aald _ ⟨Nat.le_of_ble_eq_true rfl, Nat.le_of_ble_eq_true rfl⟩ h10.2 (shape_ord h10.2).1 h11 h13.1 dX1_removeSeason_25 ?_
      obtain ⟨q14, h15, hF⟩ := bd_inv hF
      refine E_callV (na := 1) (As := [.ref r12]) (S := []) (kc := 0) (ks := 0) (ci := 8) rfl rfl h8.2 (shape_ord h8.2).1 cwV_RX1_56 ⟨Nat.le_of_ble_eq_true rfl, Nat.le_of_ble_eq_true rfl⟩ (T_X6_copyFrom hfl fl _ _ _ h8.2 h13.2 _ h15) rfl rfl rfl (Nat.le_of_ble_eq_true rfl) dX1_removeSeason_26 ?_
      refine E_iinc (q := 1) (v := (v2 + (1 : Int32))) (L' := [(2, .int (v2 + (1 : Int32))), (0, .ref v0)]) rfl rfl (Nat.le_of_ble_eq_true rfl) rfl dX1_removeSeason_29 ?_
      refine E_goto (tgt := 2) rfl dX1_removeSeason_32 ?_
      refine E_sub [1, 0] rfl ?_
      exact ih _ _ _ hv0 hF
set_option maxHeartbeats 4000000 in
set_option maxRecDepth 100000 in
theorem T_X1_removeSeason {l : Launch} (hfl : l.stackTraces = false) (fl : Nat) (v0 : Nat) (v1 : Int32) (s : Mem) (hv0 : shape v0 = some (.inl 3)) (ρ : Mem) (hF : F_X1_removeSeason fl v0 v1 s = some ρ) : MetN l X_X1_removeSeason false NF s [.ref v0, .int v1] (.inr none, NF, ρ) := by
  unfold F_X1_removeSeason at hF
  obtain ⟨r, hr⟩ : ∃ r : Rs, r = (.inr none, NF, ρ) := ⟨_, rfl⟩
  rw [← hr]
  refine met_of_E rfl rfl (by decide +kernel) hfl rfl (Nat.le_of_ble_eq_true rfl) ?_
  show E l X_X1_removeSeason r false NF s 0 0 0 [(0, .ref v0), (1, .int v1)] []
  refine E_iload_n (j := 1) (i := 1) (q := 1) rfl rfl dX1_removeSeason_0 ?_
  refine E_istore_n (j := 2) (i := 2) (L' := [(2, .int v1), (0, .ref v0), (1, .int v1)]) rfl (Nat.le_of_ble_eq_true rfl) rfl dX1_removeSeason_1 ?_
  refine E_sub [1, 0] rfl ?_
  exact T_X1_removeSeason_2 hfl fl hr  fl _ _ _ hv0 hF
set_option maxHeartbeats 4000000 in
set_option maxRecDepth 100000 in
theorem T_X1_makeParty {l : Launch} (hfl : l.stackTraces = false) (fl : Nat) (v0 : Nat) (v1 : Nat) (v2 : Int32) (s : Mem) (hv0 : shape v0 = some (.inl 3)) (hv1 : shape v1 = some (.inl 5)) (ρ : (Int32 × Mem)) (hF : F_X1_makeParty fl v0 v1 v2 s = some ρ) : MetN l X_X1_makeParty false NF s [.ref v0, .ref v1, .int v2] (.inr (some (.int ρ.1)), NF, ρ.2) := by
  unfold F_X1_makeParty at hF
  obtain ⟨r, hr⟩ : ∃ r : Rs, r = (.inr (some (.int ρ.1)), NF, ρ.2) := ⟨_, rfl⟩
  rw [← hr]
  refine met_of_E rfl rfl (by decide +kernel) hfl rfl (Nat.le_of_ble_eq_true rfl) ?_
  show E l X_X1_makeParty r false NF s 0 0 0 [(0, .ref v0), (1, .ref v1), (2, .int v2)] []
  refine E_aload_n (j := 0) (i := 0) (q := 0) rfl rfl dX1_makeParty_0 ?_
  obtain ⟨r1, h2, hF⟩ := bd_inv hF
  have h2 := ldA_inv h2
  refine gf_RX1_20 rfl hv0 (shape_ord hv0).1 h2.1 dX1_makeParty_1 ?_
  refine E_aload_n (j := 0) (i := 0) (q := 0) rfl rfl dX1_makeParty_4 ?_
  refine gf_RX1_47 rfl hv0 (shape_ord hv0).1 dX1_makeParty_5 ?_
  obtain ⟨h3, hF⟩ := gd_inv hF
  obtain ⟨r4, h5, hF⟩ := bd_inv hF
  have h5 := ldO_inv h5
  refine E_aald _ ⟨Nat.le_of_ble_eq_true rfl, Nat.le_of_ble_eq_true rfl⟩ h2.2 (shape_ord h2.2).1 h3 h5.1 dX1_makeParty_8 ?_
  refine E_astore_n (j := 3) (i := 3) (L' := [(3, .ref r4), (0, .ref v0), (1, .ref v1), (2, .int v2)]) rfl (Nat.le_of_ble_eq_true rfl) rfl dX1_makeParty_9 ?_
  refine E_aload_n (j := 3) (i := 3) (q := 0) rfl rfl dX1_makeParty_10 ?_
  refine E_aload_n (j := 1) (i := 1) (q := 2) rfl rfl dX1_makeParty_11 ?_
  obtain ⟨q6, h7, hF⟩ := bd_inv hF
  refine E_callV (na := 1) (As := [.ref v1]) (S := []) (kc := 0) (ks := 0) (ci := 5) rfl rfl h5.2 (shape_ord h5.2).1 cwV_RX1_50 ⟨Nat.le_of_ble_eq_true rfl, Nat.le_of_ble_eq_true rfl⟩ (T_X3_copyFrom hfl fl _ _ _ h5.2 hv1 _ h7) rfl rfl rfl (Nat.le_of_ble_eq_true rfl) dX1_makeParty_12 ?_
  refine E_aload_n (j := 3) (i := 3) (q := 0) rfl rfl dX1_makeParty_15 ?_
  refine E_iload_n (j := 2) (i := 2) (q := 3) rfl rfl dX1_makeParty_16 ?_
  refine pf_RX1_99 rfl h5.2 (shape_ord h5.2).1 dX1_makeParty_17 ?_
  obtain ⟨m8, e9, hF⟩ := nx_inv hF
  refine E_mem e9 ?_
  refine E_aload_n (j := 3) (i := 3) (q := 0) rfl rfl dX1_makeParty_20 ?_
  refine E_aload_n (j := 0) (i := 0) (q := 1) rfl rfl dX1_makeParty_21 ?_
  refine E_iload_n (j := 2) (i := 2) (q := 3) rfl rfl dX1_makeParty_22 ?_
  obtain ⟨q10, h11, hF⟩ := bd_inv hF
  refine E_callV (na := 1) (As := [.int v2]) (S := [.ref r4]) (kc := 0) (ks := 0) (ci := 3) rfl rfl hv0 (shape_ord hv0).1 cwV_RX1_102 ⟨Nat.le_of_ble_eq_true rfl, Nat.le_of_ble_eq_true rfl⟩ (T_X1_rateOf hfl fl _ _ _ hv0 _ h11) rfl rfl rfl (Nat.le_of_ble_eq_true rfl) dX1_makeParty_23 ?_
  refine E_aload_n (j := 1) (i := 1) (q := 2) rfl rfl dX1_makeParty_26 ?_
  refine gf_RX1_106 rfl hv1 (shape_ord hv1).1 dX1_makeParty_27 ?_
  refine E_iadd dX1_makeParty_30 ?_
  refine E_aload_n (j := 1) (i := 1) (q := 2) rfl rfl dX1_makeParty_31 ?_
  refine gf_RX1_109 rfl hv1 (shape_ord hv1).1 dX1_makeParty_32 ?_
  refine E_imul dX1_makeParty_35 ?_
  refine pf_RX1_112 rfl h5.2 (shape_ord h5.2).1 dX1_makeParty_36 ?_
  obtain ⟨m12, e13, hF⟩ := nx_inv hF
  refine E_mem e13 ?_
  refine E_aload_n (j := 3) (i := 3) (q := 0) rfl rfl dX1_makeParty_39 ?_
  refine E_iconst (v := (1 : Int32)) rfl dX1_makeParty_40 ?_
  refine pf_RX1_82 rfl (by decide) h5.2 (shape_ord h5.2).1 dX1_makeParty_41 ?_
  obtain ⟨m14, e15, hF⟩ := nx_inv hF
  refine E_mem e15 ?_
  refine E_aload_n (j := 0) (i := 0) (q := 1) rfl rfl dX1_makeParty_44 ?_
  refine E_dup rfl dX1_makeParty_45 ?_
  refine gf_RX1_47 rfl hv0 (shape_ord hv0).1 dX1_makeParty_46 ?_
  refine E_iconst (v := (1 : Int32)) rfl dX1_makeParty_49 ?_
  refine E_iadd dX1_makeParty_50 ?_
  refine pf_RX1_47 rfl hv0 (shape_ord hv0).1 dX1_makeParty_51 ?_
  obtain ⟨m16, e17, hF⟩ := nx_inv hF
  refine E_mem e17 ?_
  refine E_aload_n (j := 0) (i := 0) (q := 1) rfl rfl dX1_makeParty_54 ?_
  refine gf_RX1_47 rfl hv0 (shape_ord hv0).1 dX1_makeParty_55 ?_
  refine E_iconst (v := (1 : Int32)) rfl dX1_makeParty_58 ?_
  refine E_isub dX1_makeParty_59 ?_
  exact E_iret (Or.inl rfl) rfl (by cases hF; exact hr) dX1_makeParty_60
set_option maxHeartbeats 4000000 in
set_option maxRecDepth 100000 in
theorem T_X3_isOn {l : Launch} (hfl : l.stackTraces = false) (fl : Nat) (v0 : Nat) (v1 : Int32) (s : Mem) (hv0 : shape v0 = some (.inl 5)) (ρ : Int32) (hF : F_X3_isOn fl v0 v1 s = some ρ) : MetN l X_X3_isOn false NF s [.ref v0, .int v1] (.inr (some (.int ρ)), NF, s) := by
  unfold F_X3_isOn at hF
  obtain ⟨r, hr⟩ : ∃ r : Rs, r = (.inr (some (.int ρ)), NF, s) := ⟨_, rfl⟩
  rw [← hr]
  refine met_of_E rfl rfl (by decide +kernel) hfl rfl (Nat.le_of_ble_eq_true rfl) ?_
  show E l X_X3_isOn r false NF s 0 0 0 [(0, .ref v0), (1, .int v1)] []
  refine E_aload_n (j := 0) (i := 0) (q := 0) rfl rfl dX3_isOn_0 ?_
  refine gf_RX3_47 rfl hv0 (shape_ord hv0).1 dX3_isOn_1 ?_
  refine E_if_eq (tgt := 19) rfl dX3_isOn_4 (fun c1 => ?_) (fun c1 => ?_)
  · have hF := ite_t hF c1
    refine E_iconst (v := (0 : Int32)) rfl dX3_isOn_19 ?_
    exact E_zret (ty := .boolean) (Or.inl rfl) rfl rfl (by cases hF; exact hr) dX3_isOn_20
  · have hF := ite_f hF c1
    refine E_aload_n (j := 0) (i := 0) (q := 0) rfl rfl dX3_isOn_7 ?_
    refine gf_RX3_38 rfl hv0 (shape_ord hv0).1 dX3_isOn_8 ?_
    refine E_iload_n (j := 1) (i := 1) (q := 1) rfl rfl dX3_isOn_11 ?_
    refine E_icmp_ne (tgt := 19) rfl dX3_isOn_12 (fun c2 => ?_) (fun c2 => ?_)
    · have hF := ite_f hF c2
      refine E_iconst (v := (0 : Int32)) rfl dX3_isOn_19 ?_
      exact E_zret (ty := .boolean) (Or.inl rfl) rfl rfl (by cases hF; exact hr) dX3_isOn_20
    · have hF := ite_t hF c2
      refine E_iconst (v := (1 : Int32)) rfl dX3_isOn_15 ?_
      refine E_goto (tgt := 20) rfl dX3_isOn_16 ?_
      exact E_zret (ty := .boolean) (Or.inl rfl) rfl rfl (by cases hF; exact hr) dX3_isOn_20
set_option maxHeartbeats 4000000 in
set_option maxRecDepth 100000 in
theorem T_X1_busyNights_47 {l : Launch} (hfl : l.stackTraces = false) (fl : Nat) {r : Rs} {ρ : Int64} {s : Mem} (hr : r = (.inr (some (.long ρ)), NF, s)) {k5 : Nat → Int32 → Int32 → Int64 → Int32 → Option Int64} (hk5 : ∀ (v0 : Nat) (v1 : Int32) (v2 : Int32) (v3 : Int64) (v5 : Int32) (hv0 : shape v0 = some (.inl 3)), k5 v0 v1 v2 v3 v5 = some ρ → E l X_X1_busyNights r false NF s 0 0 5 [(0, .ref v0), (1, .int v1), (2, .int v2), (3, .long v3), (5, .int v5)] []) (v0 : Nat) (v1 : Int32) (v2 : Int32) (v3 : Int64) (v5 : Int32) (hv0 : shape v0 = some (.inl 3)) (hF : B_X1_busyNights_47 k5 fl s v0 v1 v2 v3 v5 = some ρ) : E l X_X1_busyNights r false NF s 0 0 47 [(0, .ref v0), (1, .int v1), (2, .int v2), (3, .long v3), (5, .int v5)] [] := by
  unfold B_X1_busyNights_47 at hF
  refine E_iinc (q := 4) (v := (v5 + (1 : Int32))) (L' := [(5, .int (v5 + (1 : Int32))), (0, .ref v0), (1, .int v1), (2, .int v2), (3, .long v3)]) rfl rfl (Nat.le_of_ble_eq_true rfl) rfl dX1_busyNights_47 ?_
  refine E_goto (tgt := 5) rfl dX1_busyNights_50 ?_
  refine E_sub [1, 2, 3, 4, 0] rfl ?_
  exact hk5 _ _ _ _ _ hv0 hF
set_option maxHeartbeats 4000000 in
set_option maxRecDepth 100000 in
theorem T_X1_busyNights_5 {l : Launch} (hfl : l.stackTraces = false) (fl : Nat) {r : Rs} {ρ : Int64} {s : Mem} (hr : r = (.inr (some (.long ρ)), NF, s)) : ∀ (n : Nat) (v0 : Nat) (v1 : Int32) (v2 : Int32) (v3 : Int64) (v5 : Int32) (hv0 : shape v0 = some (.inl 3)), B_X1_busyNights_5 fl s n v0 v1 v2 v3 v5 = some ρ → E l X_X1_busyNights r false NF s 0 0 5 [(0, .ref v0), (1, .int v1), (2, .int v2), (3, .long v3), (5, .int v5)] [] := by
  intro n
  induction n with
  | zero =>
    intro v0 v1 v2 v3 v5 hv0 hF
    cases hF
  | succ n ih =>
    intro v0 v1 v2 v3 v5 hv0 hF
    refine E_iload (q := 4) rfl dX1_busyNights_5 ?_
    refine E_aload_n (j := 0) (i := 0) (q := 0) rfl rfl dX1_busyNights_7 ?_
    refine gf_RX1_47 rfl hv0 (shape_ord hv0).1 dX1_busyNights_8 ?_
    refine E_icmp_ge (tgt := 53) rfl dX1_busyNights_11 (fun c1 => ?_) (fun c1 => ?_)
    · have hF := ite_t hF c1
      refine E_lload_n (j := 3) (i := 3) (q := 3) rfl rfl dX1_busyNights_53 ?_
      exact E_lret (Or.inl rfl) rfl (by cases hF; exact hr) dX1_busyNights_54
    · have hF := ite_f hF c1
      refine E_iload (q := 4) rfl dX1_busyNights_14 ?_
      refine E_iload_n (j := 2) (i := 2) (q := 2) rfl rfl dX1_busyNights_16 ?_
      refine E_icmp_eq (tgt := 47) rfl dX1_busyNights_17 (fun c2 => ?_) (fun c2 => ?_)
      · have hF := ite_t hF c2
        refine E_sub [0, 1, 2, 3, 4] rfl ?_
        exact T_X1_busyNights_47 hfl fl hr ih _ _ _ _ _ hv0 hF
      · have hF := ite_f hF c2
        refine E_aload_n (j := 0) (i := 0) (q := 0) rfl rfl dX1_busyNights_20 ?_
        obtain ⟨r3, h4, hF⟩ := bd_inv hF
        have h4 := ldA_inv h4
        refine gf_RX1_20 rfl hv0 (shape_ord hv0).1 h4.1 dX1_busyNights_21 ?_
        refine E_iload (q := 4) rfl dX1_busyNights_24 ?_
        obtain ⟨h5, hF⟩ := gd_inv hF
        obtain ⟨r6, h7, hF⟩ := bd_inv hF
        have h7 := ldO_inv h7
        refine E_aald _ ⟨Nat.le_of_ble_eq_true rfl, Nat.le_of_ble_eq_true rfl⟩ h4.2 (shape_ord h4.2).1 h5 h7.1 dX1_busyNights_26 ?_
        refine E_iload_n (j := 1) (i := 1) (q := 1) rfl rfl dX1_busyNights_27 ?_
        obtain ⟨q8, h9, hF⟩ := bd_inv hF
        refine E_callV (na := 1) (As := [.int v1]) (S := []) (kc := 0) (ks := 0) (ci := 5) rfl rfl h7.2 (shape_ord h7.2).1 cwV_RX1_115 ⟨Nat.le_of_ble_eq_true rfl, Nat.le_of_ble_eq_true rfl⟩ (T_X3_isOn hfl fl _ _ _ h7.2 _ h9) rfl rfl rfl (Nat.le_of_ble_eq_true rfl) dX1_busyNights_28 ?_
        refine E_if_eq (tgt := 47) rfl dX1_busyNights_31 (fun c10 => ?_) (fun c10 => ?_)
        · have hF := ite_t hF c10
          refine E_sub [0, 1, 2, 3, 4] rfl ?_
          exact T_X1_busyNights_47 hfl fl hr ih _ _ _ _ _ hv0 hF
        · have hF := ite_f hF c10
          refine E_lload_n (j := 3) (i := 3) (q := 3) rfl rfl dX1_busyNights_34 ?_
          refine E_aload_n (j := 0) (i := 0) (q := 0) rfl rfl dX1_busyNights_35 ?_
          obtain ⟨r11, h12, hF⟩ := bd_inv hF
          have h12 := ldA_inv h12
          refine gf_RX1_20 rfl hv0 (shape_ord hv0).1 h12.1 dX1_busyNights_36 ?_
          refine E_iload (q := 4) rfl dX1_busyNights_39 ?_
          obtain ⟨h13, hF⟩ := gd_inv hF
          obtain ⟨r14, h15, hF⟩ := bd_inv hF
          have h15 := ldO_inv h15
          refine E_aald _ ⟨Nat.le_of_ble_eq_true rfl, Nat.le_of_ble_eq_true rfl⟩ h12.2 (shape_ord h12.2).1 h13 h15.1 dX1_busyNights_41 ?_
          refine gf_RX1_118 rfl h15.2 (shape_ord h15.2).1 dX1_busyNights_42 ?_
          refine E_lor dX1_busyNights_45 ?_
          refine E_lstore_n (j := 3) (i := 3) (L' := [(3, .long (v3 ||| (gL s r14 6))), (0, .ref v0), (1, .int v1), (2, .int v2), (5, .int v5)]) rfl (Nat.le_of_ble_eq_true rfl) rfl dX1_busyNights_46 ?_
          refine E_sub [1, 2, 3, 0, 4] rfl ?_
          exact T_X1_busyNights_47 hfl fl hr ih _ _ _ _ _ hv0 hF
set_option maxHeartbeats 4000000 in
set_option maxRecDepth 100000 in
theorem T_X1_busyNights {l : Launch} (hfl : l.stackTraces = false) (fl : Nat) (v0 : Nat) (v1 : Int32) (v2 : Int32) (s : Mem) (hv0 : shape v0 = some (.inl 3)) (ρ : Int64) (hF : F_X1_busyNights fl v0 v1 v2 s = some ρ) : MetN l X_X1_busyNights false NF s [.ref v0, .int v1, .int v2] (.inr (some (.long ρ)), NF, s) := by
  unfold F_X1_busyNights at hF
  obtain ⟨r, hr⟩ : ∃ r : Rs, r = (.inr (some (.long ρ)), NF, s) := ⟨_, rfl⟩
  rw [← hr]
  refine met_of_E rfl rfl (by decide +kernel) hfl rfl (Nat.le_of_ble_eq_true rfl) ?_
  show E l X_X1_busyNights r false NF s 0 0 0 [(0, .ref v0), (1, .int v1), (2, .int v2)] []
  refine E_lconst (v := (0 : Int64)) rfl dX1_busyNights_0 ?_
  refine E_lstore_n (j := 3) (i := 3) (L' := [(3, .long (0 : Int64)), (0, .ref v0), (1, .int v1), (2, .int v2)]) rfl (Nat.le_of_ble_eq_true rfl) rfl dX1_busyNights_1 ?_
  refine E_iconst (v := (0 : Int32)) rfl dX1_busyNights_2 ?_
  refine E_istore (L' := [(5, .int (0 : Int32)), (3, .long (0 : Int64)), (0, .ref v0), (1, .int v1), (2, .int v2)]) (Nat.le_of_ble_eq_true rfl) rfl dX1_busyNights_3 ?_
  refine E_sub [2, 3, 4, 1, 0] rfl ?_
  exact T_X1_busyNights_5 hfl fl hr  fl _ _ _ _ _ hv0 hF
set_option maxHeartbeats 4000000 in
set_option maxRecDepth 100000 in
theorem T_X7_holds {l : Launch} (hfl : l.stackTraces = false) (fl : Nat) (v0 : Int64) (v2 : Int32) (s : Mem) (ρ : Int32) (hF : F_X7_holds fl v0 v2 s = some ρ) : MetN l X_X7_holds false NF s [.long v0, .int v2] (.inr (some (.int ρ)), NF, s) := by
  unfold F_X7_holds at hF
  obtain ⟨r, hr⟩ : ∃ r : Rs, r = (.inr (some (.int ρ)), NF, s) := ⟨_, rfl⟩
  rw [← hr]
  refine met_of_E rfl rfl (by decide +kernel) hfl rfl (Nat.le_of_ble_eq_true rfl) ?_
  show E l X_X7_holds r false NF s 0 0 0 [(0, .long v0), (2, .int v2)] []
  refine E_iload_n (j := 2) (i := 2) (q := 1) rfl rfl dX7_holds_0 ?_
  refine E_if_lt (tgt := 24) rfl dX7_holds_1 (fun c1 => ?_) (fun c1 => ?_)
  · have hF := ite_t hF c1
    refine E_iconst (v := (0 : Int32)) rfl dX7_holds_24 ?_
    exact E_zret (ty := .boolean) (Or.inl rfl) rfl rfl (by cases hF; exact hr) dX7_holds_25
  · have hF := ite_f hF c1
    refine E_iload_n (j := 2) (i := 2) (q := 1) rfl rfl dX7_holds_4 ?_
    refine E_bipush (v := (60 : Int32)) rfl dX7_holds_5 ?_
    refine E_icmp_ge (tgt := 24) rfl dX7_holds_7 (fun c2 => ?_) (fun c2 => ?_)
    · have hF := ite_t hF c2
      refine E_iconst (v := (0 : Int32)) rfl dX7_holds_24 ?_
      exact E_zret (ty := .boolean) (Or.inl rfl) rfl rfl (by cases hF; exact hr) dX7_holds_25
    · have hF := ite_f hF c2
      refine E_lload_n (j := 0) (i := 0) (q := 0) rfl rfl dX7_holds_10 ?_
      refine E_iload_n (j := 2) (i := 2) (q := 1) rfl rfl dX7_holds_11 ?_
      refine E_lushr dX7_holds_12 ?_
      refine E_lconst (v := (1 : Int64)) rfl dX7_holds_13 ?_
      refine E_land dX7_holds_14 ?_
      refine E_lconst (v := (0 : Int64)) rfl dX7_holds_15 ?_
      refine E_lcmp dX7_holds_16 ?_
      refine E_if_eq (tgt := 24) rfl dX7_holds_17 (fun c3 => ?_) (fun c3 => ?_)
      · have hF := ite_t hF c3
        refine E_iconst (v := (0 : Int32)) rfl dX7_holds_24 ?_
        exact E_zret (ty := .boolean) (Or.inl rfl) rfl rfl (by cases hF; exact hr) dX7_holds_25
      · have hF := ite_f hF c3
        refine E_iconst (v := (1 : Int32)) rfl dX7_holds_20 ?_
        refine E_goto (tgt := 25) rfl dX7_holds_21 ?_
        exact E_zret (ty := .boolean) (Or.inl rfl) rfl rfl (by cases hF; exact hr) dX7_holds_25
set_option maxHeartbeats 4000000 in
set_option maxRecDepth 100000 in
theorem T_X1_partyAt_41 {l : Launch} (hfl : l.stackTraces = false) (fl : Nat) {r : Rs} {ρ : Int32} {s : Mem} (hr : r = (.inr (some (.int ρ)), NF, s)) {k2 : Nat → Int32 → Int32 → Int32 → Option Int32} (hk2 : ∀ (v0 : Nat) (v1 : Int32) (v2 : Int32) (v3 : Int32) (hv0 : shape v0 = some (.inl 3)), k2 v0 v1 v2 v3 = some ρ → E l X_X1_partyAt r false NF s 0 0 2 [(0, .ref v0), (1, .int v1), (2, .int v2), (3, .int v3)] []) (v0 : Nat) (v1 : Int32) (v2 : Int32) (v3 : Int32) (hv0 : shape v0 = some (.inl 3)) (hF : B_X1_partyAt_41 k2 fl s v0 v1 v2 v3 = some ρ) : E l X_X1_partyAt r false NF s 0 0 41 [(0, .ref v0), (1, .int v1), (2, .int v2), (3, .int v3)] [] := by
  unfold B_X1_partyAt_41 at hF
  refine E_iinc (q := 3) (v := (v3 + (1 : Int32))) (L' := [(3, .int (v3 + (1 : Int32))), (0, .ref v0), (1, .int v1), (2, .int v2)]) rfl rfl (Nat.le_of_ble_eq_true rfl) rfl dX1_partyAt_41 ?_
  refine E_goto (tgt := 2) rfl dX1_partyAt_44 ?_
  refine E_sub [1, 2, 3, 0] rfl ?_
  exact hk2 _ _ _ _ hv0 hF
set_option maxHeartbeats 4000000 in
set_option maxRecDepth 100000 in
theorem T_X1_partyAt_2 {l : Launch} (hfl : l.stackTraces = false) (fl : Nat) {r : Rs} {ρ : Int32} {s : Mem} (hr : r = (.inr (some (.int ρ)), NF, s)) : ∀ (n : Nat) (v0 : Nat) (v1 : Int32) (v2 : Int32) (v3 : Int32) (hv0 : shape v0 = some (.inl 3)), B_X1_partyAt_2 fl s n v0 v1 v2 v3 = some ρ → E l X_X1_partyAt r false NF s 0 0 2 [(0, .ref v0), (1, .int v1), (2, .int v2), (3, .int v3)] [] := by
  intro n
  induction n with
  | zero =>
    intro v0 v1 v2 v3 hv0 hF
    cases hF
  | succ n ih =>
    intro v0 v1 v2 v3 hv0 hF
    refine E_iload_n (j := 3) (i := 3) (q := 3) rfl rfl dX1_partyAt_2 ?_
    refine E_aload_n (j := 0) (i := 0) (q := 0) rfl rfl dX1_partyAt_3 ?_
    refine gf_RX1_47 rfl hv0 (shape_ord hv0).1 dX1_partyAt_4 ?_
    refine E_icmp_ge (tgt := 47) rfl dX1_partyAt_7 (fun c1 => ?_) (fun c1 => ?_)
    · have hF := ite_t hF c1
      refine E_iconst (v := (-1 : Int32)) rfl dX1_partyAt_47 ?_
      exact E_iret (Or.inl rfl) rfl (by cases hF; exact hr) dX1_partyAt_48
    · have hF := ite_f hF c1
      refine E_aload_n (j := 0) (i := 0) (q := 0) rfl rfl dX1_partyAt_10 ?_
      obtain ⟨r2, h3, hF⟩ := bd_inv hF
      have h3 := ldA_inv h3
      refine gf_RX1_20 rfl hv0 (shape_ord hv0).1 h3.1 dX1_partyAt_11 ?_
      refine E_iload_n (j := 3) (i := 3) (q := 3) rfl rfl dX1_partyAt_14 ?_
      obtain ⟨h4, hF⟩ := gd_inv hF
      obtain ⟨r5, h6, hF⟩ := bd_inv hF
      have h6 := ldO_inv h6
      refine E_aald _ ⟨Nat.le_of_ble_eq_true rfl, Nat.le_of_ble_eq_true rfl⟩ h3.2 (shape_ord h3.2).1 h4 h6.1 dX1_partyAt_15 ?_
      refine E_iload_n (j := 1) (i := 1) (q := 1) rfl rfl dX1_partyAt_16 ?_
      obtain ⟨q7, h8, hF⟩ := bd_inv hF
      refine E_callV (na := 1) (As := [.int v1]) (S := []) (kc := 0) (ks := 0) (ci := 5) rfl rfl h6.2 (shape_ord h6.2).1 cwV_RX1_115 ⟨Nat.le_of_ble_eq_true rfl, Nat.le_of_ble_eq_true rfl⟩ (T_X3_isOn hfl fl _ _ _ h6.2 _ h8) rfl rfl rfl (Nat.le_of_ble_eq_true rfl) dX1_partyAt_17 ?_
      refine E_if_eq (tgt := 41) rfl dX1_partyAt_20 (fun c9 => ?_) (fun c9 => ?_)
      · have hF := ite_t hF c9
        refine E_sub [0, 1, 2, 3] rfl ?_
        exact T_X1_partyAt_41 hfl fl hr ih _ _ _ _ hv0 hF
      · have hF := ite_f hF c9
        refine E_aload_n (j := 0) (i := 0) (q := 0) rfl rfl dX1_partyAt_23 ?_
        obtain ⟨r10, h11, hF⟩ := bd_inv hF
        have h11 := ldA_inv h11
        refine gf_RX1_20 rfl hv0 (shape_ord hv0).1 h11.1 dX1_partyAt_24 ?_
        refine E_iload_n (j := 3) (i := 3) (q := 3) rfl rfl dX1_partyAt_27 ?_
        obtain ⟨h12, hF⟩ := gd_inv hF
        obtain ⟨r13, h14, hF⟩ := bd_inv hF
        have h14 := ldO_inv h14
        refine E_aald _ ⟨Nat.le_of_ble_eq_true rfl, Nat.le_of_ble_eq_true rfl⟩ h11.2 (shape_ord h11.2).1 h12 h14.1 dX1_partyAt_28 ?_
        refine gf_RX1_118 rfl h14.2 (shape_ord h14.2).1 dX1_partyAt_29 ?_
        refine E_iload_n (j := 2) (i := 2) (q := 2) rfl rfl dX1_partyAt_32 ?_
        obtain ⟨q15, h16, hF⟩ := bd_inv hF
        refine E_callSN (na := 2) (As := [.long (gL s r13 6), .int v2]) (S := []) (kc := 0) (ks := 0) cwNS_RX1_121 ⟨Nat.le_of_ble_eq_true rfl, Nat.le_of_ble_eq_true rfl⟩ (T_X7_holds hfl fl _ _ _  _ h16) rfl rfl rfl (Nat.le_of_ble_eq_true rfl) dX1_partyAt_33 ?_
        refine E_if_eq (tgt := 41) rfl dX1_partyAt_36 (fun c17 => ?_) (fun c17 => ?_)
        · have hF := ite_t hF c17
          refine E_sub [0, 1, 2, 3] rfl ?_
          exact T_X1_partyAt_41 hfl fl hr ih _ _ _ _ hv0 hF
        · have hF := ite_f hF c17
          refine E_iload_n (j := 3) (i := 3) (q := 3) rfl rfl dX1_partyAt_39 ?_
          exact E_iret (Or.inl rfl) rfl (by cases hF; exact hr) dX1_partyAt_40
set_option maxHeartbeats 4000000 in
set_option maxRecDepth 100000 in
theorem T_X1_partyAt {l : Launch} (hfl : l.stackTraces = false) (fl : Nat) (v0 : Nat) (v1 : Int32) (v2 : Int32) (s : Mem) (hv0 : shape v0 = some (.inl 3)) (ρ : Int32) (hF : F_X1_partyAt fl v0 v1 v2 s = some ρ) : MetN l X_X1_partyAt false NF s [.ref v0, .int v1, .int v2] (.inr (some (.int ρ)), NF, s) := by
  unfold F_X1_partyAt at hF
  obtain ⟨r, hr⟩ : ∃ r : Rs, r = (.inr (some (.int ρ)), NF, s) := ⟨_, rfl⟩
  rw [← hr]
  refine met_of_E rfl rfl (by decide +kernel) hfl rfl (Nat.le_of_ble_eq_true rfl) ?_
  show E l X_X1_partyAt r false NF s 0 0 0 [(0, .ref v0), (1, .int v1), (2, .int v2)] []
  refine E_iconst (v := (0 : Int32)) rfl dX1_partyAt_0 ?_
  refine E_istore_n (j := 3) (i := 3) (L' := [(3, .int (0 : Int32)), (0, .ref v0), (1, .int v1), (2, .int v2)]) rfl (Nat.le_of_ble_eq_true rfl) rfl dX1_partyAt_1 ?_
  refine E_sub [1, 2, 3, 0] rfl ?_
  exact T_X1_partyAt_2 hfl fl hr  fl _ _ _ _ hv0 hF
set_option maxHeartbeats 4000000 in
set_option maxRecDepth 100000 in
theorem T_X1_powerUsed_73 {l : Launch} (hfl : l.stackTraces = false) (fl : Nat) {r : Rs} {ρ : Int32} {s : Mem} (hr : r = (.inr (some (.int ρ)), NF, s)) {k6 : Nat → Int32 → Int32 → Int32 → Int32 → Int32 → Option Int32} (hk6 : ∀ (v0 : Nat) (v1 : Int32) (v2 : Int32) (v3 : Int32) (v4 : Int32) (v5 : Int32) (hv0 : shape v0 = some (.inl 3)), k6 v0 v1 v2 v3 v4 v5 = some ρ → E l X_X1_powerUsed r false NF s 0 0 6 [(0, .ref v0), (1, .int v1), (2, .int v2), (3, .int v3), (4, .int v4), (5, .int v5)] []) (v0 : Nat) (v1 : Int32) (v2 : Int32) (v3 : Int32) (v4 : Int32) (v5 : Int32) (hv0 : shape v0 = some (.inl 3)) (hF : B_X1_powerUsed_73 k6 fl s v0 v1 v2 v3 v4 v5 = some ρ) : E l X_X1_powerUsed r false NF s 0 0 73 [(0, .ref v0), (1, .int v1), (2, .int v2), (3, .int v3), (4, .int v4), (5, .int v5)] [] := by
  unfold B_X1_powerUsed_73 at hF
  refine E_iinc (q := 5) (v := (v5 + (1 : Int32))) (L' := [(5, .int (v5 + (1 : Int32))), (0, .ref v0), (1, .int v1), (2, .int v2), (3, .int v3), (4, .int v4)]) rfl rfl (Nat.le_of_ble_eq_true rfl) rfl dX1_powerUsed_73 ?_
  refine E_goto (tgt := 6) rfl dX1_powerUsed_76 ?_
  refine E_sub [1, 2, 3, 4, 5, 0] rfl ?_
  exact hk6 _ _ _ _ _ _ hv0 hF
set_option maxHeartbeats 4000000 in
set_option maxRecDepth 100000 in
theorem T_X1_powerUsed_6 {l : Launch} (hfl : l.stackTraces = false) (fl : Nat) {r : Rs} {ρ : Int32} {s : Mem} (hr : r = (.inr (some (.int ρ)), NF, s)) : ∀ (n : Nat) (v0 : Nat) (v1 : Int32) (v2 : Int32) (v3 : Int32) (v4 : Int32) (v5 : Int32) (hv0 : shape v0 = some (.inl 3)), B_X1_powerUsed_6 fl s n v0 v1 v2 v3 v4 v5 = some ρ → E l X_X1_powerUsed r false NF s 0 0 6 [(0, .ref v0), (1, .int v1), (2, .int v2), (3, .int v3), (4, .int v4), (5, .int v5)] [] := by
  intro n
  induction n with
  | zero =>
    intro v0 v1 v2 v3 v4 v5 hv0 hF
    cases hF
  | succ n ih =>
    intro v0 v1 v2 v3 v4 v5 hv0 hF
    refine E_iload (q := 5) rfl dX1_powerUsed_6 ?_
    refine E_aload_n (j := 0) (i := 0) (q := 0) rfl rfl dX1_powerUsed_8 ?_
    refine gf_RX1_47 rfl hv0 (shape_ord hv0).1 dX1_powerUsed_9 ?_
    refine E_icmp_ge (tgt := 79) rfl dX1_powerUsed_12 (fun c1 => ?_) (fun c1 => ?_)
    · have hF := ite_t hF c1
      refine E_iload (q := 4) rfl dX1_powerUsed_79 ?_
      exact E_iret (Or.inl rfl) rfl (by cases hF; exact hr) dX1_powerUsed_81
    · have hF := ite_f hF c1
      refine E_aload_n (j := 0) (i := 0) (q := 0) rfl rfl dX1_powerUsed_15 ?_
      obtain ⟨r2, h3, hF⟩ := bd_inv hF
      have h3 := ldA_inv h3
      refine gf_RX1_20 rfl hv0 (shape_ord hv0).1 h3.1 dX1_powerUsed_16 ?_
      refine E_iload (q := 5) rfl dX1_powerUsed_19 ?_
      obtain ⟨h4, hF⟩ := gd_inv hF
      obtain ⟨r5, h6, hF⟩ := bd_inv hF
      have h6 := ldO_inv h6
      refine E_aald _ ⟨Nat.le_of_ble_eq_true rfl, Nat.le_of_ble_eq_true rfl⟩ h3.2 (shape_ord h3.2).1 h4 h6.1 dX1_powerUsed_21 ?_
      refine E_astore (L' := [(6, .ref r5), (0, .ref v0), (1, .int v1), (2, .int v2), (3, .int v3), (4, .int v4), (5, .int v5)]) (Nat.le_of_ble_eq_true rfl) rfl dX1_powerUsed_22 ?_
      refine E_iload (q := 6) rfl dX1_powerUsed_24 ?_
      refine E_iload_n (j := 3) (i := 3) (q := 4) rfl rfl dX1_powerUsed_26 ?_
      refine E_icmp_eq (tgt := 73) rfl dX1_powerUsed_27 (fun c7 => ?_) (fun c7 => ?_)
      · have hF := ite_t hF c7
        refine E_sub [1, 2, 3, 4, 5, 6] rfl ?_
        exact T_X1_powerUsed_73 hfl fl hr ih _ _ _ _ _ _ hv0 hF
      · have hF := ite_f hF c7
        refine E_aload (q := 0) rfl dX1_powerUsed_30 ?_
        refine gf_RX1_82 rfl h6.2 (shape_ord h6.2).1 dX1_powerUsed_32 ?_
        refine E_if_eq (tgt := 73) rfl dX1_powerUsed_35 (fun c8 => ?_) (fun c8 => ?_)
        · have hF := ite_t hF c8
          refine E_sub [1, 2, 3, 4, 5, 6] rfl ?_
          exact T_X1_powerUsed_73 hfl fl hr ih _ _ _ _ _ _ hv0 hF
        · have hF := ite_f hF c8
          refine E_aload (q := 0) rfl dX1_powerUsed_38 ?_
          refine gf_RX1_118 rfl h6.2 (shape_ord h6.2).1 dX1_powerUsed_40 ?_
          refine E_iload_n (j := 2) (i := 2) (q := 3) rfl rfl dX1_powerUsed_43 ?_
          obtain ⟨q9, h10, hF⟩ := bd_inv hF
          refine E_callSN (na := 2) (As := [.long (gL s r5 6), .int v2]) (S := []) (kc := 0) (ks := 0) cwNS_RX1_121 ⟨Nat.le_of_ble_eq_true rfl, Nat.le_of_ble_eq_true rfl⟩ (T_X7_holds hfl fl _ _ _  _ h10) rfl rfl rfl (Nat.le_of_ble_eq_true rfl) dX1_powerUsed_44 ?_
          refine E_if_eq (tgt := 73) rfl dX1_powerUsed_47 (fun c11 => ?_) (fun c11 => ?_)
          · have hF := ite_t hF c11
            refine E_sub [1, 2, 3, 4, 5, 6] rfl ?_
            exact T_X1_powerUsed_73 hfl fl hr ih _ _ _ _ _ _ hv0 hF
          · have hF := ite_f hF c11
            refine E_aload_n (j := 0) (i := 0) (q := 1) rfl rfl dX1_powerUsed_50 ?_
            refine E_aload (q := 0) rfl dX1_powerUsed_51 ?_
            refine gf_RX1_99 rfl h6.2 (shape_ord h6.2).1 dX1_powerUsed_53 ?_
            obtain ⟨q12, h13, hF⟩ := bd_inv hF
            refine E_callV (na := 1) (As := [.int (gI s r5 7)]) (S := []) (kc := 0) (ks := 0) (ci := 3) rfl rfl hv0 (shape_ord hv0).1 cwV_RX1_125 ⟨Nat.le_of_ble_eq_true rfl, Nat.le_of_ble_eq_true rfl⟩ (T_X1_circuitOf hfl fl _ _ _ hv0 _ h13) rfl rfl rfl (Nat.le_of_ble_eq_true rfl) dX1_powerUsed_56 ?_
            refine E_iload_n (j := 1) (i := 1) (q := 2) rfl rfl dX1_powerUsed_59 ?_
            refine E_icmp_ne (tgt := 73) rfl dX1_powerUsed_60 (fun c14 => ?_) (fun c14 => ?_)
            · have hF := ite_f hF c14
              refine E_sub [1, 2, 3, 4, 5, 6] rfl ?_
              exact T_X1_powerUsed_73 hfl fl hr ih _ _ _ _ _ _ hv0 hF
            · have hF := ite_t hF c14
              refine E_iload (q := 5) rfl dX1_powerUsed_63 ?_
              refine E_aload (q := 0) rfl dX1_powerUsed_65 ?_
              refine gf_RX1_106 rfl h6.2 (shape_ord h6.2).1 dX1_powerUsed_67 ?_
              refine E_iadd dX1_powerUsed_70 ?_
              refine E_istore (L' := [(4, .int (v4 + (gI s r5 3))), (6, .ref r5), (0, .ref v0), (1, .int v1), (2, .int v2), (3, .int v3), (5, .int v5)]) (Nat.le_of_ble_eq_true rfl) rfl dX1_powerUsed_71 ?_
              refine E_sub [2, 3, 4, 5, 0, 6] rfl ?_
              exact T_X1_powerUsed_73 hfl fl hr ih _ _ _ _ _ _ hv0 hF
set_option maxHeartbeats 4000000 in
set_option maxRecDepth 100000 in
theorem T_X1_powerUsed {l : Launch} (hfl : l.stackTraces = false) (fl : Nat) (v0 : Nat) (v1 : Int32) (v2 : Int32) (v3 : Int32) (s : Mem) (hv0 : shape v0 = some (.inl 3)) (ρ : Int32) (hF : F_X1_powerUsed fl v0 v1 v2 v3 s = some ρ) : MetN l X_X1_powerUsed false NF s [.ref v0, .int v1, .int v2, .int v3] (.inr (some (.int ρ)), NF, s) := by
  unfold F_X1_powerUsed at hF
  obtain ⟨r, hr⟩ : ∃ r : Rs, r = (.inr (some (.int ρ)), NF, s) := ⟨_, rfl⟩
  rw [← hr]
  refine met_of_E rfl rfl (by decide +kernel) hfl rfl (Nat.le_of_ble_eq_true rfl) ?_
  show E l X_X1_powerUsed r false NF s 0 0 0 [(0, .ref v0), (1, .int v1), (2, .int v2), (3, .int v3)] []
  refine E_iconst (v := (0 : Int32)) rfl dX1_powerUsed_0 ?_
  refine E_istore (L' := [(4, .int (0 : Int32)), (0, .ref v0), (1, .int v1), (2, .int v2), (3, .int v3)]) (Nat.le_of_ble_eq_true rfl) rfl dX1_powerUsed_1 ?_
  refine E_iconst (v := (0 : Int32)) rfl dX1_powerUsed_3 ?_
  refine E_istore (L' := [(5, .int (0 : Int32)), (4, .int (0 : Int32)), (0, .ref v0), (1, .int v1), (2, .int v2), (3, .int v3)]) (Nat.le_of_ble_eq_true rfl) rfl dX1_powerUsed_4 ?_
  refine E_sub [2, 3, 4, 5, 1, 0] rfl ?_
  exact T_X1_powerUsed_6 hfl fl hr  fl _ _ _ _ _ _ hv0 hF
set_option maxHeartbeats 4000000 in
set_option maxRecDepth 100000 in
theorem T_X1_stayAsked_70 {l : Launch} (hfl : l.stackTraces = false) (fl : Nat) {r : Rs} {ρ : Int32} {s : Mem} (hr : r = (.inr (some (.int ρ)), NF, s)) {k5 : Nat → Int32 → Int32 → Int32 → Int32 → Option Int32} (hk5 : ∀ (v0 : Nat) (v1 : Int32) (v2 : Int32) (v3 : Int32) (v4 : Int32) (hv0 : shape v0 = some (.inl 3)), k5 v0 v1 v2 v3 v4 = some ρ → E l X_X1_stayAsked r false NF s 0 0 5 [(0, .ref v0), (1, .int v1), (2, .int v2), (3, .int v3), (4, .int v4)] []) (v0 : Nat) (v1 : Int32) (v2 : Int32) (v3 : Int32) (v4 : Int32) (hv0 : shape v0 = some (.inl 3)) (hF : B_X1_stayAsked_70 k5 fl s v0 v1 v2 v3 v4 = some ρ) : E l X_X1_stayAsked r false NF s 0 0 70 [(0, .ref v0), (1, .int v1), (2, .int v2), (3, .int v3), (4, .int v4)] [] := by
  unfold B_X1_stayAsked_70 at hF
  refine E_iinc (q := 4) (v := (v4 + (1 : Int32))) (L' := [(4, .int (v4 + (1 : Int32))), (0, .ref v0), (1, .int v1), (2, .int v2), (3, .int v3)]) rfl rfl (Nat.le_of_ble_eq_true rfl) rfl dX1_stayAsked_70 ?_
  refine E_goto (tgt := 5) rfl dX1_stayAsked_73 ?_
  refine E_sub [1, 2, 3, 4, 0] rfl ?_
  exact hk5 _ _ _ _ _ hv0 hF
set_option maxHeartbeats 4000000 in
set_option maxRecDepth 100000 in
theorem T_X1_stayAsked_48 {l : Launch} (hfl : l.stackTraces = false) (fl : Nat) {r : Rs} {ρ : Int32} {s : Mem} (hr : r = (.inr (some (.int ρ)), NF, s)) {k5 : Nat → Int32 → Int32 → Int32 → Int32 → Option Int32} (hk5 : ∀ (v0 : Nat) (v1 : Int32) (v2 : Int32) (v3 : Int32) (v4 : Int32) (hv0 : shape v0 = some (.inl 3)), k5 v0 v1 v2 v3 v4 = some ρ → E l X_X1_stayAsked r false NF s 0 0 5 [(0, .ref v0), (1, .int v1), (2, .int v2), (3, .int v3), (4, .int v4)] []) (v0 : Nat) (v1 : Int32) (v2 : Int32) (v3 : Int32) (v4 : Int32) (v5 : Nat) (w0 : Int32) (hv0 : shape v0 = some (.inl 3)) (hv5 : shape v5 = some (.inl 8)) (hF : B_X1_stayAsked_48 k5 fl s v0 v1 v2 v3 v4 v5 w0 = some ρ) : E l X_X1_stayAsked r false NF s 0 0 48 [(0, .ref v0), (1, .int v1), (2, .int v2), (3, .int v3), (4, .int v4), (5, .ref v5)] [.int w0] := by
  unfold B_X1_stayAsked_48 at hF
  refine E_istore (L' := [(6, .int w0), (0, .ref v0), (1, .int v1), (2, .int v2), (3, .int v3), (4, .int v4), (5, .ref v5)]) (Nat.le_of_ble_eq_true rfl) rfl dX1_stayAsked_48 ?_
  refine E_iload (q := 0) rfl dX1_stayAsked_50 ?_
  refine E_if_eq (tgt := 70) rfl dX1_stayAsked_52 (fun c1 => ?_) (fun c1 => ?_)
  · have hF := ite_t hF c1
    refine E_sub [1, 2, 3, 4, 5] rfl ?_
    exact T_X1_stayAsked_70 hfl fl hr hk5 _ _ _ _ _ hv0 hF
  · have hF := ite_f hF c1
    refine E_aload (q := 6) rfl dX1_stayAsked_55 ?_
    refine gf_RX1_96 rfl hv5 (shape_ord hv5).1 dX1_stayAsked_57 ?_
    refine E_iload_n (j := 3) (i := 3) (q := 4) rfl rfl dX1_stayAsked_60 ?_
    refine E_icmp_le (tgt := 70) rfl dX1_stayAsked_61 (fun c2 => ?_) (fun c2 => ?_)
    · have hF := ite_t hF c2
      refine E_sub [1, 2, 3, 4, 5] rfl ?_
      exact T_X1_stayAsked_70 hfl fl hr hk5 _ _ _ _ _ hv0 hF
    · have hF := ite_f hF c2
      refine E_aload (q := 6) rfl dX1_stayAsked_64 ?_
      refine gf_RX1_96 rfl hv5 (shape_ord hv5).1 dX1_stayAsked_66 ?_
      refine E_istore_n (j := 3) (i := 3) (L' := [(3, .int (gI s v5 2)), (6, .int w0), (0, .ref v0), (1, .int v1), (2, .int v2), (4, .int v4), (5, .ref v5)]) rfl (Nat.le_of_ble_eq_true rfl) rfl dX1_stayAsked_69 ?_
      refine E_sub [2, 3, 4, 0, 5] rfl ?_
      exact T_X1_stayAsked_70 hfl fl hr hk5 _ _ _ _ _ hv0 hF
set_option maxHeartbeats 4000000 in
set_option maxRecDepth 100000 in
theorem T_X1_stayAsked_47 {l : Launch} (hfl : l.stackTraces = false) (fl : Nat) {r : Rs} {ρ : Int32} {s : Mem} (hr : r = (.inr (some (.int ρ)), NF, s)) {k5 : Nat → Int32 → Int32 → Int32 → Int32 → Option Int32} (hk5 : ∀ (v0 : Nat) (v1 : Int32) (v2 : Int32) (v3 : Int32) (v4 : Int32) (hv0 : shape v0 = some (.inl 3)), k5 v0 v1 v2 v3 v4 = some ρ → E l X_X1_stayAsked r false NF s 0 0 5 [(0, .ref v0), (1, .int v1), (2, .int v2), (3, .int v3), (4, .int v4)] []) (v0 : Nat) (v1 : Int32) (v2 : Int32) (v3 : Int32) (v4 : Int32) (v5 : Nat) (hv0 : shape v0 = some (.inl 3)) (hv5 : shape v5 = some (.inl 8)) (hF : B_X1_stayAsked_47 k5 fl s v0 v1 v2 v3 v4 v5 = some ρ) : E l X_X1_stayAsked r false NF s 0 0 47 [(0, .ref v0), (1, .int v1), (2, .int v2), (3, .int v3), (4, .int v4), (5, .ref v5)] [] := by
  unfold B_X1_stayAsked_47 at hF
  refine E_iconst (v := (0 : Int32)) rfl dX1_stayAsked_47 ?_
  refine E_sub [0, 1, 2, 3, 4, 5] rfl ?_
  exact T_X1_stayAsked_48 hfl fl hr hk5 _ _ _ _ _ _ _ hv0 hv5 hF
set_option maxHeartbeats 4000000 in
set_option maxRecDepth 100000 in
theorem T_X1_stayAsked_5 {l : Launch} (hfl : l.stackTraces = false) (fl : Nat) {r : Rs} {ρ : Int32} {s : Mem} (hr : r = (.inr (some (.int ρ)), NF, s)) : ∀ (n : Nat) (v0 : Nat) (v1 : Int32) (v2 : Int32) (v3 : Int32) (v4 : Int32) (hv0 : shape v0 = some (.inl 3)), B_X1_stayAsked_5 fl s n v0 v1 v2 v3 v4 = some ρ → E l X_X1_stayAsked r false NF s 0 0 5 [(0, .ref v0), (1, .int v1), (2, .int v2), (3, .int v3), (4, .int v4)] [] := by
  intro n
  induction n with
  | zero =>
    intro v0 v1 v2 v3 v4 hv0 hF
    cases hF
  | succ n ih =>
    intro v0 v1 v2 v3 v4 hv0 hF
    refine E_iload (q := 4) rfl dX1_stayAsked_5 ?_
    refine E_aload_n (j := 0) (i := 0) (q := 0) rfl rfl dX1_stayAsked_7 ?_
    refine gf_RX1_53 rfl hv0 (shape_ord hv0).1 dX1_stayAsked_8 ?_
    refine E_icmp_ge (tgt := 76) rfl dX1_stayAsked_11 (fun c3 => ?_) (fun c3 => ?_)
    · have hF := ite_t hF c3
      refine E_iload_n (j := 3) (i := 3) (q := 3) rfl rfl dX1_stayAsked_76 ?_
      exact E_iret (Or.inl rfl) rfl (by cases hF; exact hr) dX1_stayAsked_77
    · have hF := ite_f hF c3
      refine E_aload_n (j := 0) (i := 0) (q := 0) rfl rfl dX1_stayAsked_14 ?_
      obtain ⟨r4, h5, hF⟩ := bd_inv hF
      have h5 := ldA_inv h5
      refine gf_RX1_27 rfl hv0 (shape_ord hv0).1 h5.1 dX1_stayAsked_15 ?_
      refine E_iload (q := 4) rfl dX1_stayAsked_18 ?_
      obtain ⟨h6, hF⟩ := gd_inv hF
      obtain ⟨r7, h8, hF⟩ := bd_inv hF
      have h8 := ldO_inv h8
      refine E_aald _ ⟨Nat.le_of_ble_eq_true rfl, Nat.le_of_ble_eq_true rfl⟩ h5.2 (shape_ord h5.2).1 h6 h8.1 dX1_stayAsked_20 ?_
      refine E_astore (L' := [(5, .ref r7), (0, .ref v0), (1, .int v1), (2, .int v2), (3, .int v3), (4, .int v4)]) (Nat.le_of_ble_eq_true rfl) rfl dX1_stayAsked_21 ?_
      refine E_iload_n (j := 1) (i := 1) (q := 2) rfl rfl dX1_stayAsked_23 ?_
      refine E_aload (q := 0) rfl dX1_stayAsked_24 ?_
      refine gf_RX1_93 rfl h8.2 (shape_ord h8.2).1 dX1_stayAsked_26 ?_
      refine E_icmp_gt (tgt := 47) rfl dX1_stayAsked_29 (fun c9 => ?_) (fun c9 => ?_)
      · have hF := ite_t hF c9
        refine E_sub [1, 2, 3, 4, 5, 0] rfl ?_
        exact T_X1_stayAsked_47 hfl fl hr ih _ _ _ _ _ _ hv0 h8.2 hF
      · have hF := ite_f hF c9
        refine E_iload_n (j := 1) (i := 1) (q := 2) rfl rfl dX1_stayAsked_32 ?_
        refine E_iload_n (j := 2) (i := 2) (q := 3) rfl rfl dX1_stayAsked_33 ?_
        refine E_iadd dX1_stayAsked_34 ?_
        refine E_aload (q := 0) rfl dX1_stayAsked_35 ?_
        refine gf_RX1_92 rfl h8.2 (shape_ord h8.2).1 dX1_stayAsked_37 ?_
        refine E_icmp_le (tgt := 47) rfl dX1_stayAsked_40 (fun c10 => ?_) (fun c10 => ?_)
        · have hF := ite_t hF c10
          refine E_sub [1, 2, 3, 4, 5, 0] rfl ?_
          exact T_X1_stayAsked_47 hfl fl hr ih _ _ _ _ _ _ hv0 h8.2 hF
        · have hF := ite_f hF c10
          refine E_iconst (v := (1 : Int32)) rfl dX1_stayAsked_43 ?_
          refine E_goto (tgt := 48) rfl dX1_stayAsked_44 ?_
          refine E_sub [1, 2, 3, 4, 5, 0] rfl ?_
          exact T_X1_stayAsked_48 hfl fl hr ih _ _ _ _ _ _ _ hv0 h8.2 hF
set_option maxHeartbeats 4000000 in
set_option maxRecDepth 100000 in
theorem T_X1_stayAsked {l : Launch} (hfl : l.stackTraces = false) (fl : Nat) (v0 : Nat) (v1 : Int32) (v2 : Int32) (s : Mem) (hv0 : shape v0 = some (.inl 3)) (ρ : Int32) (hF : F_X1_stayAsked fl v0 v1 v2 s = some ρ) : MetN l X_X1_stayAsked false NF s [.ref v0, .int v1, .int v2] (.inr (some (.int ρ)), NF, s) := by
  unfold F_X1_stayAsked at hF
  obtain ⟨r, hr⟩ : ∃ r : Rs, r = (.inr (some (.int ρ)), NF, s) := ⟨_, rfl⟩
  rw [← hr]
  refine met_of_E rfl rfl (by decide +kernel) hfl rfl (Nat.le_of_ble_eq_true rfl) ?_
  show E l X_X1_stayAsked r false NF s 0 0 0 [(0, .ref v0), (1, .int v1), (2, .int v2)] []
  refine E_iconst (v := (1 : Int32)) rfl dX1_stayAsked_0 ?_
  refine E_istore_n (j := 3) (i := 3) (L' := [(3, .int (1 : Int32)), (0, .ref v0), (1, .int v1), (2, .int v2)]) rfl (Nat.le_of_ble_eq_true rfl) rfl dX1_stayAsked_1 ?_
  refine E_iconst (v := (0 : Int32)) rfl dX1_stayAsked_2 ?_
  refine E_istore (L' := [(4, .int (0 : Int32)), (3, .int (1 : Int32)), (0, .ref v0), (1, .int v1), (2, .int v2)]) (Nat.le_of_ble_eq_true rfl) rfl dX1_stayAsked_3 ?_
  refine E_sub [2, 3, 4, 1, 0] rfl ?_
  exact T_X1_stayAsked_5 hfl fl hr  fl _ _ _ _ _ hv0 hF
set_option maxHeartbeats 4000000 in
set_option maxRecDepth 100000 in
theorem T_X1_isTooShort_34 {l : Launch} (hfl : l.stackTraces = false) (fl : Nat) {r : Rs} {ρ : Int32} {s : Mem} (hr : r = (.inr (some (.int ρ)), NF, s)) (v0 : Nat) (v1 : Nat) (w0 : Int32) (hv0 : shape v0 = some (.inl 3)) (hv1 : shape v1 = some (.inl 5)) (hF : B_X1_isTooShort_34 fl s v0 v1 w0 = some ρ) : E l X_X1_isTooShort r false NF s 0 0 34 [(0, .ref v0), (1, .ref v1)] [.int w0] := by
  unfold B_X1_isTooShort_34 at hF
  refine E_istore (L' := [(4, .int w0), (0, .ref v0), (1, .ref v1)]) (Nat.le_of_ble_eq_true rfl) rfl dX1_isTooShort_34 ?_
  refine E_iload (q := 0) rfl dX1_isTooShort_36 ?_
  refine E_if_ne (tgt := 64) rfl dX1_isTooShort_38 (fun c1 => ?_) (fun c1 => ?_)
  · have hF := ite_f hF c1
    refine E_iconst (v := (0 : Int32)) rfl dX1_isTooShort_64 ?_
    exact E_zret (ty := .boolean) (Or.inl rfl) rfl rfl (by cases hF; exact hr) dX1_isTooShort_65
  · have hF := ite_t hF c1
    refine E_aload_n (j := 1) (i := 1) (q := 2) rfl rfl dX1_isTooShort_41 ?_
    refine gf_RX1_109 rfl hv1 (shape_ord hv1).1 dX1_isTooShort_42 ?_
    refine E_aload_n (j := 0) (i := 0) (q := 1) rfl rfl dX1_isTooShort_45 ?_
    refine E_aload_n (j := 1) (i := 1) (q := 2) rfl rfl dX1_isTooShort_46 ?_
    refine gf_RX1_86 rfl hv1 (shape_ord hv1).1 dX1_isTooShort_47 ?_
    refine E_aload_n (j := 1) (i := 1) (q := 2) rfl rfl dX1_isTooShort_50 ?_
    refine gf_RX1_109 rfl hv1 (shape_ord hv1).1 dX1_isTooShort_51 ?_
    obtain ⟨q2, h3, hF⟩ := bd_inv hF
    refine E_callV (na := 2) (As := [.int (gI s v1 4), .int (gI s v1 5)]) (S := [.int (gI s v1 5)]) (kc := 0) (ks := 0) (ci := 3) rfl rfl hv0 (shape_ord hv0).1 cwV_RX1_128 ⟨Nat.le_of_ble_eq_true rfl, Nat.le_of_ble_eq_true rfl⟩ (T_X1_stayAsked hfl fl _ _ _ _ hv0 _ h3) rfl rfl rfl (Nat.le_of_ble_eq_true rfl) dX1_isTooShort_54 ?_
    refine E_icmp_ge (tgt := 64) rfl dX1_isTooShort_57 (fun c4 => ?_) (fun c4 => ?_)
    · have hF := ite_t hF c4
      refine E_iconst (v := (0 : Int32)) rfl dX1_isTooShort_64 ?_
      exact E_zret (ty := .boolean) (Or.inl rfl) rfl rfl (by cases hF; exact hr) dX1_isTooShort_65
    · have hF := ite_f hF c4
      refine E_iconst (v := (1 : Int32)) rfl dX1_isTooShort_60 ?_
      refine E_goto (tgt := 65) rfl dX1_isTooShort_61 ?_
      exact E_zret (ty := .boolean) (Or.inl rfl) rfl rfl (by cases hF; exact hr) dX1_isTooShort_65
set_option maxHeartbeats 4000000 in
set_option maxRecDepth 100000 in
theorem T_X1_isTooShort_33 {l : Launch} (hfl : l.stackTraces = false) (fl : Nat) {r : Rs} {ρ : Int32} {s : Mem} (hr : r = (.inr (some (.int ρ)), NF, s)) (v0 : Nat) (v1 : Nat) (hv0 : shape v0 = some (.inl 3)) (hv1 : shape v1 = some (.inl 5)) (hF : B_X1_isTooShort_33 fl s v0 v1 = some ρ) : E l X_X1_isTooShort r false NF s 0 0 33 [(0, .ref v0), (1, .ref v1)] [] := by
  unfold B_X1_isTooShort_33 at hF
  refine E_iconst (v := (0 : Int32)) rfl dX1_isTooShort_33 ?_
  refine E_sub [0, 1] rfl ?_
  exact T_X1_isTooShort_34 hfl fl hr  _ _ _ hv0 hv1 hF
set_option maxHeartbeats 4000000 in
set_option maxRecDepth 100000 in
theorem T_X1_isTooShort {l : Launch} (hfl : l.stackTraces = false) (fl : Nat) (v0 : Nat) (v1 : Nat) (v2 : Int64) (s : Mem) (hv0 : shape v0 = some (.inl 3)) (hv1 : shape v1 = some (.inl 5)) (ρ : Int32) (hF : F_X1_isTooShort fl v0 v1 v2 s = some ρ) : MetN l X_X1_isTooShort false NF s [.ref v0, .ref v1, .long v2] (.inr (some (.int ρ)), NF, s) := by
  unfold F_X1_isTooShort at hF
  obtain ⟨r, hr⟩ : ∃ r : Rs, r = (.inr (some (.int ρ)), NF, s) := ⟨_, rfl⟩
  rw [← hr]
  refine met_of_E rfl rfl (by decide +kernel) hfl rfl (Nat.le_of_ble_eq_true rfl) ?_
  show E l X_X1_isTooShort r false NF s 0 0 0 [(0, .ref v0), (1, .ref v1), (2, .long v2)] []
  refine E_lload_n (j := 2) (i := 2) (q := 2) rfl rfl dX1_isTooShort_0 ?_
  refine E_aload_n (j := 1) (i := 1) (q := 1) rfl rfl dX1_isTooShort_1 ?_
  refine gf_RX1_86 rfl hv1 (shape_ord hv1).1 dX1_isTooShort_2 ?_
  refine E_iconst (v := (1 : Int32)) rfl dX1_isTooShort_5 ?_
  refine E_isub dX1_isTooShort_6 ?_
  obtain ⟨q5, h6, hF⟩ := bd_inv hF
  refine E_callSN (na := 2) (As := [.long v2, .int ((gI s v1 4) - (1 : Int32))]) (S := []) (kc := 0) (ks := 0) cwNS_RX1_121 ⟨Nat.le_of_ble_eq_true rfl, Nat.le_of_ble_eq_true rfl⟩ (T_X7_holds hfl fl _ _ _  _ h6) rfl rfl rfl (Nat.le_of_ble_eq_true rfl) dX1_isTooShort_7 ?_
  refine E_if_eq (tgt := 33) rfl dX1_isTooShort_10 (fun c7 => ?_) (fun c7 => ?_)
  · have hF := ite_t hF c7
    refine E_sub [0, 1] rfl ?_
    exact T_X1_isTooShort_33 hfl fl hr  _ _ hv0 hv1 hF
  · have hF := ite_f hF c7
    refine E_lload_n (j := 2) (i := 2) (q := 2) rfl rfl dX1_isTooShort_13 ?_
    refine E_aload_n (j := 1) (i := 1) (q := 1) rfl rfl dX1_isTooShort_14 ?_
    refine gf_RX1_86 rfl hv1 (shape_ord hv1).1 dX1_isTooShort_15 ?_
    refine E_aload_n (j := 1) (i := 1) (q := 1) rfl rfl dX1_isTooShort_18 ?_
    refine gf_RX1_109 rfl hv1 (shape_ord hv1).1 dX1_isTooShort_19 ?_
    refine E_iadd dX1_isTooShort_22 ?_
    obtain ⟨q8, h9, hF⟩ := bd_inv hF
    refine E_callSN (na := 2) (As := [.long v2, .int ((gI s v1 4) + (gI s v1 5))]) (S := []) (kc := 0) (ks := 0) cwNS_RX1_121 ⟨Nat.le_of_ble_eq_true rfl, Nat.le_of_ble_eq_true rfl⟩ (T_X7_holds hfl fl _ _ _  _ h9) rfl rfl rfl (Nat.le_of_ble_eq_true rfl) dX1_isTooShort_23 ?_
    refine E_if_eq (tgt := 33) rfl dX1_isTooShort_26 (fun c10 => ?_) (fun c10 => ?_)
    · have hF := ite_t hF c10
      refine E_sub [0, 1] rfl ?_
      exact T_X1_isTooShort_33 hfl fl hr  _ _ hv0 hv1 hF
    · have hF := ite_f hF c10
      refine E_iconst (v := (1 : Int32)) rfl dX1_isTooShort_29 ?_
      refine E_goto (tgt := 34) rfl dX1_isTooShort_30 ?_
      refine E_sub [0, 1] rfl ?_
      exact T_X1_isTooShort_34 hfl fl hr  _ _ _ hv0 hv1 hF
set_option maxHeartbeats 4000000 in
set_option maxRecDepth 100000 in
theorem T_X1_gapEdges_8 {l : Launch} (hfl : l.stackTraces = false) (fl : Nat) {r : Rs} {ρ : Int64} {s : Mem} (hr : r = (.inr (some (.long ρ)), NF, s)) : ∀ (n : Nat) (v0 : Nat) (v1 : Int64) (v3 : Int64) (v5 : Int64) (v7 : Int32) (hv0 : shape v0 = some (.inl 3)), B_X1_gapEdges_8 fl s n v0 v1 v3 v5 v7 = some ρ → E l X_X1_gapEdges r false NF s 0 0 8 [(0, .ref v0), (1, .long v1), (3, .long v3), (5, .long v5), (7, .int v7)] [] := by
  intro n
  induction n with
  | zero =>
    intro v0 v1 v3 v5 v7 hv0 hF
    cases hF
  | succ n ih =>
    intro v0 v1 v3 v5 v7 hv0 hF
    refine E_iload (q := 4) rfl dX1_gapEdges_8 ?_
    refine E_aload_n (j := 0) (i := 0) (q := 0) rfl rfl dX1_gapEdges_10 ?_
    refine gf_RX1_36 rfl hv0 (shape_ord hv0).1 dX1_gapEdges_11 ?_
    refine E_icmp_gt (tgt := 48) rfl dX1_gapEdges_14 (fun c1 => ?_) (fun c1 => ?_)
    · have hF := ite_t hF c1
      refine E_lload_n (j := 3) (i := 3) (q := 2) rfl rfl dX1_gapEdges_48 ?_
      exact E_lret (Or.inl rfl) rfl (by cases hF; exact hr) dX1_gapEdges_49
    · have hF := ite_f hF c1
      refine E_lload (q := 3) rfl dX1_gapEdges_17 ?_
      refine E_lload_n (j := 1) (i := 1) (q := 1) rfl rfl dX1_gapEdges_19 ?_
      refine E_iload (q := 4) rfl dX1_gapEdges_20 ?_
      refine E_lushr dX1_gapEdges_22 ?_
      refine E_ldc2 (v := (-1 : Int64)) wT68 dX1_gapEdges_23 ?_
      refine E_lxor dX1_gapEdges_26 ?_
      refine E_land dX1_gapEdges_27 ?_
      refine E_lstore (L' := [(5, .long (v5 &&& ((Int64.toUInt64 v1 >>> ((Int32.toInt64 v7).toUInt64 &&& Int64.toUInt64 63)).toInt64 ^^^ (-1 : Int64)))), (0, .ref v0), (1, .long v1), (3, .long v3), (7, .int v7)]) (Nat.le_of_ble_eq_true rfl) rfl dX1_gapEdges_28 ?_
      refine E_lload_n (j := 3) (i := 3) (q := 3) rfl rfl dX1_gapEdges_30 ?_
      refine E_lload (q := 0) rfl dX1_gapEdges_31 ?_
      refine E_lload_n (j := 1) (i := 1) (q := 2) rfl rfl dX1_gapEdges_33 ?_
      refine E_iload (q := 4) rfl dX1_gapEdges_34 ?_
      refine E_iconst (v := (1 : Int32)) rfl dX1_gapEdges_36 ?_
      refine E_iadd dX1_gapEdges_37 ?_
      refine E_lushr dX1_gapEdges_38 ?_
      refine E_land dX1_gapEdges_39 ?_
      refine E_lor dX1_gapEdges_40 ?_
      refine E_lstore_n (j := 3) (i := 3) (L' := [(3, .long (v3 ||| ((v5 &&& ((Int64.toUInt64 v1 >>> ((Int32.toInt64 v7).toUInt64 &&& Int64.toUInt64 63)).toInt64 ^^^ (-1 : Int64))) &&& (Int64.toUInt64 v1 >>> ((Int32.toInt64 (v7 + (1 : Int32))).toUInt64 &&& Int64.toUInt64 63)).toInt64))), (5, .long (v5 &&& ((Int64.toUInt64 v1 >>> ((Int32.toInt64 v7).toUInt64 &&& Int64.toUInt64 63)).toInt64 ^^^ (-1 : Int64)))), (0, .ref v0), (1, .long v1), (7, .int v7)]) rfl (Nat.le_of_ble_eq_true rfl) rfl dX1_gapEdges_41 ?_
      refine E_iinc (q := 4) (v := (v7 + (1 : Int32))) (L' := [(7, .int (v7 + (1 : Int32))), (3, .long (v3 ||| ((v5 &&& ((Int64.toUInt64 v1 >>> ((Int32.toInt64 v7).toUInt64 &&& Int64.toUInt64 63)).toInt64 ^^^ (-1 : Int64))) &&& (Int64.toUInt64 v1 >>> ((Int32.toInt64 (v7 + (1 : Int32))).toUInt64 &&& Int64.toUInt64 63)).toInt64))), (5, .long (v5 &&& ((Int64.toUInt64 v1 >>> ((Int32.toInt64 v7).toUInt64 &&& Int64.toUInt64 63)).toInt64 ^^^ (-1 : Int64)))), (0, .ref v0), (1, .long v1)]) rfl rfl (Nat.le_of_ble_eq_true rfl) rfl dX1_gapEdges_42 ?_
      refine E_goto (tgt := 8) rfl dX1_gapEdges_45 ?_
      refine E_sub [3, 4, 1, 2, 0] rfl ?_
      exact ih _ _ _ _ _ hv0 hF
set_option maxHeartbeats 4000000 in
set_option maxRecDepth 100000 in
theorem T_X1_gapEdges {l : Launch} (hfl : l.stackTraces = false) (fl : Nat) (v0 : Nat) (v1 : Int64) (s : Mem) (hv0 : shape v0 = some (.inl 3)) (ρ : Int64) (hF : F_X1_gapEdges fl v0 v1 s = some ρ) : MetN l X_X1_gapEdges false NF s [.ref v0, .long v1] (.inr (some (.long ρ)), NF, s) := by
  unfold F_X1_gapEdges at hF
  obtain ⟨r, hr⟩ : ∃ r : Rs, r = (.inr (some (.long ρ)), NF, s) := ⟨_, rfl⟩
  rw [← hr]
  refine met_of_E rfl rfl (by decide +kernel) hfl rfl (Nat.le_of_ble_eq_true rfl) ?_
  show E l X_X1_gapEdges r false NF s 0 0 0 [(0, .ref v0), (1, .long v1)] []
  refine E_lconst (v := (0 : Int64)) rfl dX1_gapEdges_0 ?_
  refine E_lstore_n (j := 3) (i := 3) (L' := [(3, .long (0 : Int64)), (0, .ref v0), (1, .long v1)]) rfl (Nat.le_of_ble_eq_true rfl) rfl dX1_gapEdges_1 ?_
  refine E_lload_n (j := 1) (i := 1) (q := 2) rfl rfl dX1_gapEdges_2 ?_
  refine E_lstore (L' := [(5, .long v1), (3, .long (0 : Int64)), (0, .ref v0), (1, .long v1)]) (Nat.le_of_ble_eq_true rfl) rfl dX1_gapEdges_3 ?_
  refine E_iconst (v := (1 : Int32)) rfl dX1_gapEdges_5 ?_
  refine E_istore (L' := [(7, .int (1 : Int32)), (5, .long v1), (3, .long (0 : Int64)), (0, .ref v0), (1, .long v1)]) (Nat.le_of_ble_eq_true rfl) rfl dX1_gapEdges_6 ?_
  refine E_sub [3, 4, 2, 1, 0] rfl ?_
  exact T_X1_gapEdges_8 hfl fl hr  fl _ _ _ _ _ hv0 hF
set_option maxHeartbeats 4000000 in
set_option maxRecDepth 100000 in
theorem T_J13_bitCount_95d88 {l : Launch} (hfl : l.stackTraces = false) (fl : Nat) (v0 : Int64) (s : Mem) (ρ : Int32) (hF : F_J13_bitCount_95d88 fl v0 s = some ρ) : MetN l X_J13_bitCount_95d88 false NF s [.long v0] (.inr (some (.int ρ)), NF, s) := by
  unfold F_J13_bitCount_95d88 at hF
  obtain ⟨r, hr⟩ : ∃ r : Rs, r = (.inr (some (.int ρ)), NF, s) := ⟨_, rfl⟩
  rw [← hr]
  refine met_of_EF rfl rfl (by decide +kernel) hfl rfl (Nat.le_of_ble_eq_true rfl) ?_
  show E l X_J13_bitCount_95d88 r false NF s 0 0 0 [(0, .long v0)] []
  refine E_lload_n (j := 0) (i := 0) (q := 0) rfl rfl dJ13_bitCount_95d88_0 ?_
  refine E_lload_n (j := 0) (i := 0) (q := 0) rfl rfl dJ13_bitCount_95d88_1 ?_
  refine E_iconst (v := (1 : Int32)) rfl dJ13_bitCount_95d88_2 ?_
  refine E_lushr dJ13_bitCount_95d88_3 ?_
  refine E_ldc2 (v := (6148914691236517205 : Int64)) wT69 dJ13_bitCount_95d88_4 ?_
  refine E_land dJ13_bitCount_95d88_7 ?_
  refine E_lsub dJ13_bitCount_95d88_8 ?_
  refine E_lstore_n (j := 0) (i := 0) (L' := [(0, .long (v0 - ((Int64.toUInt64 v0 >>> ((Int32.toInt64 (1 : Int32)).toUInt64 &&& Int64.toUInt64 63)).toInt64 &&& (6148914691236517205 : Int64))))]) rfl (Nat.le_of_ble_eq_true rfl) rfl dJ13_bitCount_95d88_9 ?_
  refine E_lload_n (j := 0) (i := 0) (q := 0) rfl rfl dJ13_bitCount_95d88_10 ?_
  refine E_ldc2 (v := (3689348814741910323 : Int64)) wT70 dJ13_bitCount_95d88_11 ?_
  refine E_land dJ13_bitCount_95d88_14 ?_
  refine E_lload_n (j := 0) (i := 0) (q := 0) rfl rfl dJ13_bitCount_95d88_15 ?_
  refine E_iconst (v := (2 : Int32)) rfl dJ13_bitCount_95d88_16 ?_
  refine E_lushr dJ13_bitCount_95d88_17 ?_
  refine E_ldc2 (v := (3689348814741910323 : Int64)) wT70 dJ13_bitCount_95d88_18 ?_
  refine E_land dJ13_bitCount_95d88_21 ?_
  refine E_ladd dJ13_bitCount_95d88_22 ?_
  refine E_lstore_n (j := 0) (i := 0) (L' := [(0, .long (((v0 - ((Int64.toUInt64 v0 >>> ((Int32.toInt64 (1 : Int32)).toUInt64 &&& Int64.toUInt64 63)).toInt64 &&& (6148914691236517205 : Int64))) &&& (3689348814741910323 : Int64)) + ((Int64.toUInt64 (v0 - ((Int64.toUInt64 v0 >>> ((Int32.toInt64 (1 : Int32)).toUInt64 &&& Int64.toUInt64 63)).toInt64 &&& (6148914691236517205 : Int64))) >>> ((Int32.toInt64 (2 : Int32)).toUInt64 &&& Int64.toUInt64 63)).toInt64 &&& (3689348814741910323 : Int64))))]) rfl (Nat.le_of_ble_eq_true rfl) rfl dJ13_bitCount_95d88_23 ?_
  refine E_lload_n (j := 0) (i := 0) (q := 0) rfl rfl dJ13_bitCount_95d88_24 ?_
  refine E_lload_n (j := 0) (i := 0) (q := 0) rfl rfl dJ13_bitCount_95d88_25 ?_
  refine E_iconst (v := (4 : Int32)) rfl dJ13_bitCount_95d88_26 ?_
  refine E_lushr dJ13_bitCount_95d88_27 ?_
  refine E_ladd dJ13_bitCount_95d88_28 ?_
  refine E_ldc2 (v := (1085102592571150095 : Int64)) wT71 dJ13_bitCount_95d88_29 ?_
  refine E_land dJ13_bitCount_95d88_32 ?_
  refine E_lstore_n (j := 0) (i := 0) (L' := [(0, .long (((((v0 - ((Int64.toUInt64 v0 >>> ((Int32.toInt64 (1 : Int32)).toUInt64 &&& Int64.toUInt64 63)).toInt64 &&& (6148914691236517205 : Int64))) &&& (3689348814741910323 : Int64)) + ((Int64.toUInt64 (v0 - ((Int64.toUInt64 v0 >>> ((Int32.toInt64 (1 : Int32)).toUInt64 &&& Int64.toUInt64 63)).toInt64 &&& (6148914691236517205 : Int64))) >>> ((Int32.toInt64 (2 : Int32)).toUInt64 &&& Int64.toUInt64 63)).toInt64 &&& (3689348814741910323 : Int64))) + (Int64.toUInt64 (((v0 - ((Int64.toUInt64 v0 >>> ((Int32.toInt64 (1 : Int32)).toUInt64 &&& Int64.toUInt64 63)).toInt64 &&& (6148914691236517205 : Int64))) &&& (3689348814741910323 : Int64)) + ((Int64.toUInt64 (v0 - ((Int64.toUInt64 v0 >>> ((Int32.toInt64 (1 : Int32)).toUInt64 &&& Int64.toUInt64 63)).toInt64 &&& (6148914691236517205 : Int64))) >>> ((Int32.toInt64 (2 : Int32)).toUInt64 &&& Int64.toUInt64 63)).toInt64 &&& (3689348814741910323 : Int64))) >>> ((Int32.toInt64 (4 : Int32)).toUInt64 &&& Int64.toUInt64 63)).toInt64) &&& (1085102592571150095 : Int64)))]) rfl (Nat.le_of_ble_eq_true rfl) rfl dJ13_bitCount_95d88_33 ?_
  refine E_lload_n (j := 0) (i := 0) (q := 0) rfl rfl dJ13_bitCount_95d88_34 ?_
  refine E_lload_n (j := 0) (i := 0) (q := 0) rfl rfl dJ13_bitCount_95d88_35 ?_
  refine E_bipush (v := (8 : Int32)) rfl dJ13_bitCount_95d88_36 ?_
  refine E_lushr dJ13_bitCount_95d88_38 ?_
  refine E_ladd dJ13_bitCount_95d88_39 ?_
  refine E_lstore_n (j := 0) (i := 0) (L' := [(0, .long ((((((v0 - ((Int64.toUInt64 v0 >>> ((Int32.toInt64 (1 : Int32)).toUInt64 &&& Int64.toUInt64 63)).toInt64 &&& (6148914691236517205 : Int64))) &&& (3689348814741910323 : Int64)) + ((Int64.toUInt64 (v0 - ((Int64.toUInt64 v0 >>> ((Int32.toInt64 (1 : Int32)).toUInt64 &&& Int64.toUInt64 63)).toInt64 &&& (6148914691236517205 : Int64))) >>> ((Int32.toInt64 (2 : Int32)).toUInt64 &&& Int64.toUInt64 63)).toInt64 &&& (3689348814741910323 : Int64))) + (Int64.toUInt64 (((v0 - ((Int64.toUInt64 v0 >>> ((Int32.toInt64 (1 : Int32)).toUInt64 &&& Int64.toUInt64 63)).toInt64 &&& (6148914691236517205 : Int64))) &&& (3689348814741910323 : Int64)) + ((Int64.toUInt64 (v0 - ((Int64.toUInt64 v0 >>> ((Int32.toInt64 (1 : Int32)).toUInt64 &&& Int64.toUInt64 63)).toInt64 &&& (6148914691236517205 : Int64))) >>> ((Int32.toInt64 (2 : Int32)).toUInt64 &&& Int64.toUInt64 63)).toInt64 &&& (3689348814741910323 : Int64))) >>> ((Int32.toInt64 (4 : Int32)).toUInt64 &&& Int64.toUInt64 63)).toInt64) &&& (1085102592571150095 : Int64)) + (Int64.toUInt64 (((((v0 - ((Int64.toUInt64 v0 >>> ((Int32.toInt64 (1 : Int32)).toUInt64 &&& Int64.toUInt64 63)).toInt64 &&& (6148914691236517205 : Int64))) &&& (3689348814741910323 : Int64)) + ((Int64.toUInt64 (v0 - ((Int64.toUInt64 v0 >>> ((Int32.toInt64 (1 : Int32)).toUInt64 &&& Int64.toUInt64 63)).toInt64 &&& (6148914691236517205 : Int64))) >>> ((Int32.toInt64 (2 : Int32)).toUInt64 &&& Int64.toUInt64 63)).toInt64 &&& (3689348814741910323 : Int64))) + (Int64.toUInt64 (((v0 - ((Int64.toUInt64 v0 >>> ((Int32.toInt64 (1 : Int32)).toUInt64 &&& Int64.toUInt64 63)).toInt64 &&& (6148914691236517205 : Int64))) &&& (3689348814741910323 : Int64)) + ((Int64.toUInt64 (v0 - ((Int64.toUInt64 v0 >>> ((Int32.toInt64 (1 : Int32)).toUInt64 &&& Int64.toUInt64 63)).toInt64 &&& (6148914691236517205 : Int64))) >>> ((Int32.toInt64 (2 : Int32)).toUInt64 &&& Int64.toUInt64 63)).toInt64 &&& (3689348814741910323 : Int64))) >>> ((Int32.toInt64 (4 : Int32)).toUInt64 &&& Int64.toUInt64 63)).toInt64) &&& (1085102592571150095 : Int64)) >>> ((Int32.toInt64 (8 : Int32)).toUInt64 &&& Int64.toUInt64 63)).toInt64))]) rfl (Nat.le_of_ble_eq_true rfl) rfl dJ13_bitCount_95d88_40 ?_
  refine E_lload_n (j := 0) (i := 0) (q := 0) rfl rfl dJ13_bitCount_95d88_41 ?_
  refine E_lload_n (j := 0) (i := 0) (q := 0) rfl rfl dJ13_bitCount_95d88_42 ?_
  refine E_bipush (v := (16 : Int32)) rfl dJ13_bitCount_95d88_43 ?_
  refine E_lushr dJ13_bitCount_95d88_45 ?_
  refine E_ladd dJ13_bitCount_95d88_46 ?_
  refine E_lstore_n (j := 0) (i := 0) (L' := [(0, .long (((((((v0 - ((Int64.toUInt64 v0 >>> ((Int32.toInt64 (1 : Int32)).toUInt64 &&& Int64.toUInt64 63)).toInt64 &&& (6148914691236517205 : Int64))) &&& (3689348814741910323 : Int64)) + ((Int64.toUInt64 (v0 - ((Int64.toUInt64 v0 >>> ((Int32.toInt64 (1 : Int32)).toUInt64 &&& Int64.toUInt64 63)).toInt64 &&& (6148914691236517205 : Int64))) >>> ((Int32.toInt64 (2 : Int32)).toUInt64 &&& Int64.toUInt64 63)).toInt64 &&& (3689348814741910323 : Int64))) + (Int64.toUInt64 (((v0 - ((Int64.toUInt64 v0 >>> ((Int32.toInt64 (1 : Int32)).toUInt64 &&& Int64.toUInt64 63)).toInt64 &&& (6148914691236517205 : Int64))) &&& (3689348814741910323 : Int64)) + ((Int64.toUInt64 (v0 - ((Int64.toUInt64 v0 >>> ((Int32.toInt64 (1 : Int32)).toUInt64 &&& Int64.toUInt64 63)).toInt64 &&& (6148914691236517205 : Int64))) >>> ((Int32.toInt64 (2 : Int32)).toUInt64 &&& Int64.toUInt64 63)).toInt64 &&& (3689348814741910323 : Int64))) >>> ((Int32.toInt64 (4 : Int32)).toUInt64 &&& Int64.toUInt64 63)).toInt64) &&& (1085102592571150095 : Int64)) + (Int64.toUInt64 (((((v0 - ((Int64.toUInt64 v0 >>> ((Int32.toInt64 (1 : Int32)).toUInt64 &&& Int64.toUInt64 63)).toInt64 &&& (6148914691236517205 : Int64))) &&& (3689348814741910323 : Int64)) + ((Int64.toUInt64 (v0 - ((Int64.toUInt64 v0 >>> ((Int32.toInt64 (1 : Int32)).toUInt64 &&& Int64.toUInt64 63)).toInt64 &&& (6148914691236517205 : Int64))) >>> ((Int32.toInt64 (2 : Int32)).toUInt64 &&& Int64.toUInt64 63)).toInt64 &&& (3689348814741910323 : Int64))) + (Int64.toUInt64 (((v0 - ((Int64.toUInt64 v0 >>> ((Int32.toInt64 (1 : Int32)).toUInt64 &&& Int64.toUInt64 63)).toInt64 &&& (6148914691236517205 : Int64))) &&& (3689348814741910323 : Int64)) + ((Int64.toUInt64 (v0 - ((Int64.toUInt64 v0 >>> ((Int32.toInt64 (1 : Int32)).toUInt64 &&& Int64.toUInt64 63)).toInt64 &&& (6148914691236517205 : Int64))) >>> ((Int32.toInt64 (2 : Int32)).toUInt64 &&& Int64.toUInt64 63)).toInt64 &&& (3689348814741910323 : Int64))) >>> ((Int32.toInt64 (4 : Int32)).toUInt64 &&& Int64.toUInt64 63)).toInt64) &&& (1085102592571150095 : Int64)) >>> ((Int32.toInt64 (8 : Int32)).toUInt64 &&& Int64.toUInt64 63)).toInt64) + (Int64.toUInt64 ((((((v0 - ((Int64.toUInt64 v0 >>> ((Int32.toInt64 (1 : Int32)).toUInt64 &&& Int64.toUInt64 63)).toInt64 &&& (6148914691236517205 : Int64))) &&& (3689348814741910323 : Int64)) + ((Int64.toUInt64 (v0 - ((Int64.toUInt64 v0 >>> ((Int32.toInt64 (1 : Int32)).toUInt64 &&& Int64.toUInt64 63)).toInt64 &&& (6148914691236517205 : Int64))) >>> ((Int32.toInt64 (2 : Int32)).toUInt64 &&& Int64.toUInt64 63)).toInt64 &&& (3689348814741910323 : Int64))) + (Int64.toUInt64 (((v0 - ((Int64.toUInt64 v0 >>> ((Int32.toInt64 (1 : Int32)).toUInt64 &&& Int64.toUInt64 63)).toInt64 &&& (6148914691236517205 : Int64))) &&& (3689348814741910323 : Int64)) + ((Int64.toUInt64 (v0 - ((Int64.toUInt64 v0 >>> ((Int32.toInt64 (1 : Int32)).toUInt64 &&& Int64.toUInt64 63)).toInt64 &&& (6148914691236517205 : Int64))) >>> ((Int32.toInt64 (2 : Int32)).toUInt64 &&& Int64.toUInt64 63)).toInt64 &&& (3689348814741910323 : Int64))) >>> ((Int32.toInt64 (4 : Int32)).toUInt64 &&& Int64.toUInt64 63)).toInt64) &&& (1085102592571150095 : Int64)) + (Int64.toUInt64 (((((v0 - ((Int64.toUInt64 v0 >>> ((Int32.toInt64 (1 : Int32)).toUInt64 &&& Int64.toUInt64 63)).toInt64 &&& (6148914691236517205 : Int64))) &&& (3689348814741910323 : Int64)) + ((Int64.toUInt64 (v0 - ((Int64.toUInt64 v0 >>> ((Int32.toInt64 (1 : Int32)).toUInt64 &&& Int64.toUInt64 63)).toInt64 &&& (6148914691236517205 : Int64))) >>> ((Int32.toInt64 (2 : Int32)).toUInt64 &&& Int64.toUInt64 63)).toInt64 &&& (3689348814741910323 : Int64))) + (Int64.toUInt64 (((v0 - ((Int64.toUInt64 v0 >>> ((Int32.toInt64 (1 : Int32)).toUInt64 &&& Int64.toUInt64 63)).toInt64 &&& (6148914691236517205 : Int64))) &&& (3689348814741910323 : Int64)) + ((Int64.toUInt64 (v0 - ((Int64.toUInt64 v0 >>> ((Int32.toInt64 (1 : Int32)).toUInt64 &&& Int64.toUInt64 63)).toInt64 &&& (6148914691236517205 : Int64))) >>> ((Int32.toInt64 (2 : Int32)).toUInt64 &&& Int64.toUInt64 63)).toInt64 &&& (3689348814741910323 : Int64))) >>> ((Int32.toInt64 (4 : Int32)).toUInt64 &&& Int64.toUInt64 63)).toInt64) &&& (1085102592571150095 : Int64)) >>> ((Int32.toInt64 (8 : Int32)).toUInt64 &&& Int64.toUInt64 63)).toInt64) >>> ((Int32.toInt64 (16 : Int32)).toUInt64 &&& Int64.toUInt64 63)).toInt64))]) rfl (Nat.le_of_ble_eq_true rfl) rfl dJ13_bitCount_95d88_47 ?_
  refine E_lload_n (j := 0) (i := 0) (q := 0) rfl rfl dJ13_bitCount_95d88_48 ?_
  refine E_lload_n (j := 0) (i := 0) (q := 0) rfl rfl dJ13_bitCount_95d88_49 ?_
  refine E_bipush (v := (32 : Int32)) rfl dJ13_bitCount_95d88_50 ?_
  refine E_lushr dJ13_bitCount_95d88_52 ?_
  refine E_ladd dJ13_bitCount_95d88_53 ?_
  refine E_lstore_n (j := 0) (i := 0) (L' := [(0, .long ((((((((v0 - ((Int64.toUInt64 v0 >>> ((Int32.toInt64 (1 : Int32)).toUInt64 &&& Int64.toUInt64 63)).toInt64 &&& (6148914691236517205 : Int64))) &&& (3689348814741910323 : Int64)) + ((Int64.toUInt64 (v0 - ((Int64.toUInt64 v0 >>> ((Int32.toInt64 (1 : Int32)).toUInt64 &&& Int64.toUInt64 63)).toInt64 &&& (6148914691236517205 : Int64))) >>> ((Int32.toInt64 (2 : Int32)).toUInt64 &&& Int64.toUInt64 63)).toInt64 &&& (3689348814741910323 : Int64))) + (Int64.toUInt64 (((v0 - ((Int64.toUInt64 v0 >>> ((Int32.toInt64 (1 : Int32)).toUInt64 &&& Int64.toUInt64 63)).toInt64 &&& (6148914691236517205 : Int64))) &&& (3689348814741910323 : Int64)) + ((Int64.toUInt64 (v0 - ((Int64.toUInt64 v0 >>> ((Int32.toInt64 (1 : Int32)).toUInt64 &&& Int64.toUInt64 63)).toInt64 &&& (6148914691236517205 : Int64))) >>> ((Int32.toInt64 (2 : Int32)).toUInt64 &&& Int64.toUInt64 63)).toInt64 &&& (3689348814741910323 : Int64))) >>> ((Int32.toInt64 (4 : Int32)).toUInt64 &&& Int64.toUInt64 63)).toInt64) &&& (1085102592571150095 : Int64)) + (Int64.toUInt64 (((((v0 - ((Int64.toUInt64 v0 >>> ((Int32.toInt64 (1 : Int32)).toUInt64 &&& Int64.toUInt64 63)).toInt64 &&& (6148914691236517205 : Int64))) &&& (3689348814741910323 : Int64)) + ((Int64.toUInt64 (v0 - ((Int64.toUInt64 v0 >>> ((Int32.toInt64 (1 : Int32)).toUInt64 &&& Int64.toUInt64 63)).toInt64 &&& (6148914691236517205 : Int64))) >>> ((Int32.toInt64 (2 : Int32)).toUInt64 &&& Int64.toUInt64 63)).toInt64 &&& (3689348814741910323 : Int64))) + (Int64.toUInt64 (((v0 - ((Int64.toUInt64 v0 >>> ((Int32.toInt64 (1 : Int32)).toUInt64 &&& Int64.toUInt64 63)).toInt64 &&& (6148914691236517205 : Int64))) &&& (3689348814741910323 : Int64)) + ((Int64.toUInt64 (v0 - ((Int64.toUInt64 v0 >>> ((Int32.toInt64 (1 : Int32)).toUInt64 &&& Int64.toUInt64 63)).toInt64 &&& (6148914691236517205 : Int64))) >>> ((Int32.toInt64 (2 : Int32)).toUInt64 &&& Int64.toUInt64 63)).toInt64 &&& (3689348814741910323 : Int64))) >>> ((Int32.toInt64 (4 : Int32)).toUInt64 &&& Int64.toUInt64 63)).toInt64) &&& (1085102592571150095 : Int64)) >>> ((Int32.toInt64 (8 : Int32)).toUInt64 &&& Int64.toUInt64 63)).toInt64) + (Int64.toUInt64 ((((((v0 - ((Int64.toUInt64 v0 >>> ((Int32.toInt64 (1 : Int32)).toUInt64 &&& Int64.toUInt64 63)).toInt64 &&& (6148914691236517205 : Int64))) &&& (3689348814741910323 : Int64)) + ((Int64.toUInt64 (v0 - ((Int64.toUInt64 v0 >>> ((Int32.toInt64 (1 : Int32)).toUInt64 &&& Int64.toUInt64 63)).toInt64 &&& (6148914691236517205 : Int64))) >>> ((Int32.toInt64 (2 : Int32)).toUInt64 &&& Int64.toUInt64 63)).toInt64 &&& (3689348814741910323 : Int64))) + (Int64.toUInt64 (((v0 - ((Int64.toUInt64 v0 >>> ((Int32.toInt64 (1 : Int32)).toUInt64 &&& Int64.toUInt64 63)).toInt64 &&& (6148914691236517205 : Int64))) &&& (3689348814741910323 : Int64)) + ((Int64.toUInt64 (v0 - ((Int64.toUInt64 v0 >>> ((Int32.toInt64 (1 : Int32)).toUInt64 &&& Int64.toUInt64 63)).toInt64 &&& (6148914691236517205 : Int64))) >>> ((Int32.toInt64 (2 : Int32)).toUInt64 &&& Int64.toUInt64 63)).toInt64 &&& (3689348814741910323 : Int64))) >>> ((Int32.toInt64 (4 : Int32)).toUInt64 &&& Int64.toUInt64 63)).toInt64) &&& (1085102592571150095 : Int64)) + (Int64.toUInt64 (((((v0 - ((Int64.toUInt64 v0 >>> ((Int32.toInt64 (1 : Int32)).toUInt64 &&& Int64.toUInt64 63)).toInt64 &&& (6148914691236517205 : Int64))) &&& (3689348814741910323 : Int64)) + ((Int64.toUInt64 (v0 - ((Int64.toUInt64 v0 >>> ((Int32.toInt64 (1 : Int32)).toUInt64 &&& Int64.toUInt64 63)).toInt64 &&& (6148914691236517205 : Int64))) >>> ((Int32.toInt64 (2 : Int32)).toUInt64 &&& Int64.toUInt64 63)).toInt64 &&& (3689348814741910323 : Int64))) + (Int64.toUInt64 (((v0 - ((Int64.toUInt64 v0 >>> ((Int32.toInt64 (1 : Int32)).toUInt64 &&& Int64.toUInt64 63)).toInt64 &&& (6148914691236517205 : Int64))) &&& (3689348814741910323 : Int64)) + ((Int64.toUInt64 (v0 - ((Int64.toUInt64 v0 >>> ((Int32.toInt64 (1 : Int32)).toUInt64 &&& Int64.toUInt64 63)).toInt64 &&& (6148914691236517205 : Int64))) >>> ((Int32.toInt64 (2 : Int32)).toUInt64 &&& Int64.toUInt64 63)).toInt64 &&& (3689348814741910323 : Int64))) >>> ((Int32.toInt64 (4 : Int32)).toUInt64 &&& Int64.toUInt64 63)).toInt64) &&& (1085102592571150095 : Int64)) >>> ((Int32.toInt64 (8 : Int32)).toUInt64 &&& Int64.toUInt64 63)).toInt64) >>> ((Int32.toInt64 (16 : Int32)).toUInt64 &&& Int64.toUInt64 63)).toInt64) + (Int64.toUInt64 (((((((v0 - ((Int64.toUInt64 v0 >>> ((Int32.toInt64 (1 : Int32)).toUInt64 &&& Int64.toUInt64 63)).toInt64 &&& (6148914691236517205 : Int64))) &&& (3689348814741910323 : Int64)) + ((Int64.toUInt64 (v0 - ((Int64.toUInt64 v0 >>> ((Int32.toInt64 (1 : Int32)).toUInt64 &&& Int64.toUInt64 63)).toInt64 &&& (6148914691236517205 : Int64))) >>> ((Int32.toInt64 (2 : Int32)).toUInt64 &&& Int64.toUInt64 63)).toInt64 &&& (3689348814741910323 : Int64))) + (Int64.toUInt64 (((v0 - ((Int64.toUInt64 v0 >>> ((Int32.toInt64 (1 : Int32)).toUInt64 &&& Int64.toUInt64 63)).toInt64 &&& (6148914691236517205 : Int64))) &&& (3689348814741910323 : Int64)) + ((Int64.toUInt64 (v0 - ((Int64.toUInt64 v0 >>> ((Int32.toInt64 (1 : Int32)).toUInt64 &&& Int64.toUInt64 63)).toInt64 &&& (6148914691236517205 : Int64))) >>> ((Int32.toInt64 (2 : Int32)).toUInt64 &&& Int64.toUInt64 63)).toInt64 &&& (3689348814741910323 : Int64))) >>> ((Int32.toInt64 (4 : Int32)).toUInt64 &&& Int64.toUInt64 63)).toInt64) &&& (1085102592571150095 : Int64)) + (Int64.toUInt64 (((((v0 - ((Int64.toUInt64 v0 >>> ((Int32.toInt64 (1 : Int32)).toUInt64 &&& Int64.toUInt64 63)).toInt64 &&& (6148914691236517205 : Int64))) &&& (3689348814741910323 : Int64)) + ((Int64.toUInt64 (v0 - ((Int64.toUInt64 v0 >>> ((Int32.toInt64 (1 : Int32)).toUInt64 &&& Int64.toUInt64 63)).toInt64 &&& (6148914691236517205 : Int64))) >>> ((Int32.toInt64 (2 : Int32)).toUInt64 &&& Int64.toUInt64 63)).toInt64 &&& (3689348814741910323 : Int64))) + (Int64.toUInt64 (((v0 - ((Int64.toUInt64 v0 >>> ((Int32.toInt64 (1 : Int32)).toUInt64 &&& Int64.toUInt64 63)).toInt64 &&& (6148914691236517205 : Int64))) &&& (3689348814741910323 : Int64)) + ((Int64.toUInt64 (v0 - ((Int64.toUInt64 v0 >>> ((Int32.toInt64 (1 : Int32)).toUInt64 &&& Int64.toUInt64 63)).toInt64 &&& (6148914691236517205 : Int64))) >>> ((Int32.toInt64 (2 : Int32)).toUInt64 &&& Int64.toUInt64 63)).toInt64 &&& (3689348814741910323 : Int64))) >>> ((Int32.toInt64 (4 : Int32)).toUInt64 &&& Int64.toUInt64 63)).toInt64) &&& (1085102592571150095 : Int64)) >>> ((Int32.toInt64 (8 : Int32)).toUInt64 &&& Int64.toUInt64 63)).toInt64) + (Int64.toUInt64 ((((((v0 - ((Int64.toUInt64 v0 >>> ((Int32.toInt64 (1 : Int32)).toUInt64 &&& Int64.toUInt64 63)).toInt64 &&& (6148914691236517205 : Int64))) &&& (3689348814741910323 : Int64)) + ((Int64.toUInt64 (v0 - ((Int64.toUInt64 v0 >>> ((Int32.toInt64 (1 : Int32)).toUInt64 &&& Int64.toUInt64 63)).toInt64 &&& (6148914691236517205 : Int64))) >>> ((Int32.toInt64 (2 : Int32)).toUInt64 &&& Int64.toUInt64 63)).toInt64 &&& (3689348814741910323 : Int64))) + (Int64.toUInt64 (((v0 - ((Int64.toUInt64 v0 >>> ((Int32.toInt64 (1 : Int32)).toUInt64 &&& Int64.toUInt64 63)).toInt64 &&& (6148914691236517205 : Int64))) &&& (3689348814741910323 : Int64)) + ((Int64.toUInt64 (v0 - ((Int64.toUInt64 v0 >>> ((Int32.toInt64 (1 : Int32)).toUInt64 &&& Int64.toUInt64 63)).toInt64 &&& (6148914691236517205 : Int64))) >>> ((Int32.toInt64 (2 : Int32)).toUInt64 &&& Int64.toUInt64 63)).toInt64 &&& (3689348814741910323 : Int64))) >>> ((Int32.toInt64 (4 : Int32)).toUInt64 &&& Int64.toUInt64 63)).toInt64) &&& (1085102592571150095 : Int64)) + (Int64.toUInt64 (((((v0 - ((Int64.toUInt64 v0 >>> ((Int32.toInt64 (1 : Int32)).toUInt64 &&& Int64.toUInt64 63)).toInt64 &&& (6148914691236517205 : Int64))) &&& (3689348814741910323 : Int64)) + ((Int64.toUInt64 (v0 - ((Int64.toUInt64 v0 >>> ((Int32.toInt64 (1 : Int32)).toUInt64 &&& Int64.toUInt64 63)).toInt64 &&& (6148914691236517205 : Int64))) >>> ((Int32.toInt64 (2 : Int32)).toUInt64 &&& Int64.toUInt64 63)).toInt64 &&& (3689348814741910323 : Int64))) + (Int64.toUInt64 (((v0 - ((Int64.toUInt64 v0 >>> ((Int32.toInt64 (1 : Int32)).toUInt64 &&& Int64.toUInt64 63)).toInt64 &&& (6148914691236517205 : Int64))) &&& (3689348814741910323 : Int64)) + ((Int64.toUInt64 (v0 - ((Int64.toUInt64 v0 >>> ((Int32.toInt64 (1 : Int32)).toUInt64 &&& Int64.toUInt64 63)).toInt64 &&& (6148914691236517205 : Int64))) >>> ((Int32.toInt64 (2 : Int32)).toUInt64 &&& Int64.toUInt64 63)).toInt64 &&& (3689348814741910323 : Int64))) >>> ((Int32.toInt64 (4 : Int32)).toUInt64 &&& Int64.toUInt64 63)).toInt64) &&& (1085102592571150095 : Int64)) >>> ((Int32.toInt64 (8 : Int32)).toUInt64 &&& Int64.toUInt64 63)).toInt64) >>> ((Int32.toInt64 (16 : Int32)).toUInt64 &&& Int64.toUInt64 63)).toInt64) >>> ((Int32.toInt64 (32 : Int32)).toUInt64 &&& Int64.toUInt64 63)).toInt64))]) rfl (Nat.le_of_ble_eq_true rfl) rfl dJ13_bitCount_95d88_54 ?_
  refine E_lload_n (j := 0) (i := 0) (q := 0) rfl rfl dJ13_bitCount_95d88_55 ?_
  refine E_l2i dJ13_bitCount_95d88_56 ?_
  refine E_bipush (v := (127 : Int32)) rfl dJ13_bitCount_95d88_57 ?_
  refine E_iand dJ13_bitCount_95d88_59 ?_
  exact E_iret (Or.inl rfl) rfl (by cases hF; exact hr) dJ13_bitCount_95d88_60
set_option maxHeartbeats 4000000 in
set_option maxRecDepth 100000 in
theorem T_X1_countGaps {l : Launch} (hfl : l.stackTraces = false) (fl : Nat) (v0 : Nat) (v1 : Int64) (s : Mem) (hv0 : shape v0 = some (.inl 3)) (ρ : Int32) (hF : F_X1_countGaps fl v0 v1 s = some ρ) : MetN l X_X1_countGaps false NF s [.ref v0, .long v1] (.inr (some (.int ρ)), NF, s) := by
  unfold F_X1_countGaps at hF
  obtain ⟨r, hr⟩ : ∃ r : Rs, r = (.inr (some (.int ρ)), NF, s) := ⟨_, rfl⟩
  rw [← hr]
  refine met_of_E rfl rfl (by decide +kernel) hfl rfl (Nat.le_of_ble_eq_true rfl) ?_
  show E l X_X1_countGaps r false NF s 0 0 0 [(0, .ref v0), (1, .long v1)] []
  refine E_aload_n (j := 0) (i := 0) (q := 0) rfl rfl dX1_countGaps_0 ?_
  refine E_lload_n (j := 1) (i := 1) (q := 1) rfl rfl dX1_countGaps_1 ?_
  obtain ⟨q1, h2, hF⟩ := bd_inv hF
  refine E_callV (na := 1) (As := [.long v1]) (S := []) (kc := 0) (ks := 0) (ci := 3) rfl rfl hv0 (shape_ord hv0).1 cwV_RX1_134 ⟨Nat.le_of_ble_eq_true rfl, Nat.le_of_ble_eq_true rfl⟩ (T_X1_gapEdges hfl fl _ _ _ hv0 _ h2) rfl rfl rfl (Nat.le_of_ble_eq_true rfl) dX1_countGaps_2 ?_
  obtain ⟨q3, h4, hF⟩ := bd_inv hF
  refine E_callS (na := 1) (As := [.long q1]) (S := []) (kc := 0) (ks := 0) cwS_RX1_138 ⟨Nat.le_of_ble_eq_true rfl, Nat.le_of_ble_eq_true rfl⟩ (T_J13_bitCount_95d88 hfl fl _ _  _ h4) rfl rfl rfl (Nat.le_of_ble_eq_true rfl) dX1_countGaps_5 ?_
  exact E_iret (Or.inl rfl) rfl (by cases hF; exact hr) dX1_countGaps_8
set_option maxHeartbeats 4000000 in
set_option maxRecDepth 100000 in
theorem T_X7_isCircuit {l : Launch} (hfl : l.stackTraces = false) (fl : Nat) (v0 : Int32) (s : Mem) (ρ : Int32) (hF : F_X7_isCircuit fl v0 s = some ρ) : MetN l X_X7_isCircuit false NF s [.int v0] (.inr (some (.int ρ)), NF, s) := by
  unfold F_X7_isCircuit at hF
  obtain ⟨r, hr⟩ : ∃ r : Rs, r = (.inr (some (.int ρ)), NF, s) := ⟨_, rfl⟩
  rw [← hr]
  refine met_of_E rfl rfl (by decide +kernel) hfl rfl (Nat.le_of_ble_eq_true rfl) ?_
  show E l X_X7_isCircuit r false NF s 0 0 0 [(0, .int v0)] []
  refine E_iload_n (j := 0) (i := 0) (q := 0) rfl rfl dX7_isCircuit_0 ?_
  refine E_if_lt (tgt := 13) rfl dX7_isCircuit_1 (fun c1 => ?_) (fun c1 => ?_)
  · have hF := ite_t hF c1
    refine E_iconst (v := (0 : Int32)) rfl dX7_isCircuit_13 ?_
    exact E_zret (ty := .boolean) (Or.inl rfl) rfl rfl (by cases hF; exact hr) dX7_isCircuit_14
  · have hF := ite_f hF c1
    refine E_iload_n (j := 0) (i := 0) (q := 0) rfl rfl dX7_isCircuit_4 ?_
    refine E_iconst (v := (3 : Int32)) rfl dX7_isCircuit_5 ?_
    refine E_icmp_ge (tgt := 13) rfl dX7_isCircuit_6 (fun c2 => ?_) (fun c2 => ?_)
    · have hF := ite_t hF c2
      refine E_iconst (v := (0 : Int32)) rfl dX7_isCircuit_13 ?_
      exact E_zret (ty := .boolean) (Or.inl rfl) rfl rfl (by cases hF; exact hr) dX7_isCircuit_14
    · have hF := ite_f hF c2
      refine E_iconst (v := (1 : Int32)) rfl dX7_isCircuit_9 ?_
      refine E_goto (tgt := 14) rfl dX7_isCircuit_10 ?_
      exact E_zret (ty := .boolean) (Or.inl rfl) rfl rfl (by cases hF; exact hr) dX7_isCircuit_14
set_option maxHeartbeats 4000000 in
set_option maxRecDepth 100000 in
theorem T_X1_isPowerShort_15 {l : Launch} (hfl : l.stackTraces = false) (fl : Nat) {r : Rs} {ρ : Int32} {s : Mem} (hr : r = (.inr (some (.int ρ)), NF, s)) : ∀ (n : Nat) (v0 : Nat) (v1 : Nat) (v2 : Int32) (v3 : Int32) (v4 : Int32) (hv0 : shape v0 = some (.inl 3)) (hv1 : shape v1 = some (.inl 5)), B_X1_isPowerShort_15 fl s n v0 v1 v2 v3 v4 = some ρ → E l X_X1_isPowerShort r false NF s 0 0 15 [(0, .ref v0), (1, .ref v1), (2, .int v2), (3, .int v3), (4, .int v4)] [] := by
  intro n
  induction n with
  | zero =>
    intro v0 v1 v2 v3 v4 hv0 hv1 hF
    cases hF
  | succ n ih =>
    intro v0 v1 v2 v3 v4 hv0 hv1 hF
    refine E_iload (q := 4) rfl dX1_isPowerShort_15 ?_
    refine E_aload_n (j := 1) (i := 1) (q := 1) rfl rfl dX1_isPowerShort_17 ?_
    refine gf_RX1_86 rfl hv1 (shape_ord hv1).1 dX1_isPowerShort_18 ?_
    refine E_aload_n (j := 1) (i := 1) (q := 1) rfl rfl dX1_isPowerShort_21 ?_
    refine gf_RX1_109 rfl hv1 (shape_ord hv1).1 dX1_isPowerShort_22 ?_
    refine E_iadd dX1_isPowerShort_25 ?_
    refine E_icmp_ge (tgt := 59) rfl dX1_isPowerShort_26 (fun c1 => ?_) (fun c1 => ?_)
    · have hF := ite_t hF c1
      refine E_iconst (v := (0 : Int32)) rfl dX1_isPowerShort_59 ?_
      exact E_zret (ty := .boolean) (Or.inl rfl) rfl rfl (by cases hF; exact hr) dX1_isPowerShort_60
    · have hF := ite_f hF c1
      refine E_aload_n (j := 0) (i := 0) (q := 0) rfl rfl dX1_isPowerShort_29 ?_
      refine E_iload_n (j := 3) (i := 3) (q := 3) rfl rfl dX1_isPowerShort_30 ?_
      refine E_iload (q := 4) rfl dX1_isPowerShort_31 ?_
      refine E_iload_n (j := 2) (i := 2) (q := 2) rfl rfl dX1_isPowerShort_33 ?_
      obtain ⟨q2, h3, hF⟩ := bd_inv hF
      refine E_callV (na := 3) (As := [.int v3, .int v4, .int v2]) (S := []) (kc := 0) (ks := 0) (ci := 3) rfl rfl hv0 (shape_ord hv0).1 cwV_RX1_166 ⟨Nat.le_of_ble_eq_true rfl, Nat.le_of_ble_eq_true rfl⟩ (T_X1_powerUsed hfl fl _ _ _ _ _ hv0 _ h3) rfl rfl rfl (Nat.le_of_ble_eq_true rfl) dX1_isPowerShort_34 ?_
      refine E_aload_n (j := 1) (i := 1) (q := 1) rfl rfl dX1_isPowerShort_37 ?_
      refine gf_RX1_106 rfl hv1 (shape_ord hv1).1 dX1_isPowerShort_38 ?_
      refine E_iadd dX1_isPowerShort_41 ?_
      refine E_aload_n (j := 0) (i := 0) (q := 0) rfl rfl dX1_isPowerShort_42 ?_
      obtain ⟨r4, h5, hF⟩ := bd_inv hF
      have h5 := ldA_inv h5
      refine gf_RX1_32 rfl hv0 (shape_ord hv0).1 h5.1 dX1_isPowerShort_43 ?_
      refine E_iload_n (j := 3) (i := 3) (q := 3) rfl rfl dX1_isPowerShort_46 ?_
      obtain ⟨h6, hF⟩ := gd_inv hF
      refine E_iald _ h5.2 (shape_ord h5.2).1 h6 dX1_isPowerShort_47 ?_
      refine E_icmp_le (tgt := 53) rfl dX1_isPowerShort_48 (fun c7 => ?_) (fun c7 => ?_)
      · have hF := ite_t hF c7
        refine E_iinc (q := 4) (v := (v4 + (1 : Int32))) (L' := [(4, .int (v4 + (1 : Int32))), (0, .ref v0), (1, .ref v1), (2, .int v2), (3, .int v3)]) rfl rfl (Nat.le_of_ble_eq_true rfl) rfl dX1_isPowerShort_53 ?_
        refine E_goto (tgt := 15) rfl dX1_isPowerShort_56 ?_
        refine E_sub [1, 2, 3, 4, 0] rfl ?_
        exact ih _ _ _ _ _ hv0 hv1 hF
      · have hF := ite_f hF c7
        refine E_iconst (v := (1 : Int32)) rfl dX1_isPowerShort_51 ?_
        exact E_zret (ty := .boolean) (Or.inl rfl) rfl rfl (by cases hF; exact hr) dX1_isPowerShort_52
set_option maxHeartbeats 4000000 in
set_option maxRecDepth 100000 in
theorem T_X1_isPowerShort {l : Launch} (hfl : l.stackTraces = false) (fl : Nat) (v0 : Nat) (v1 : Nat) (v2 : Int32) (v3 : Int32) (s : Mem) (hv0 : shape v0 = some (.inl 3)) (hv1 : shape v1 = some (.inl 5)) (ρ : Int32) (hF : F_X1_isPowerShort fl v0 v1 v2 v3 s = some ρ) : MetN l X_X1_isPowerShort false NF s [.ref v0, .ref v1, .int v2, .int v3] (.inr (some (.int ρ)), NF, s) := by
  unfold F_X1_isPowerShort at hF
  obtain ⟨r, hr⟩ : ∃ r : Rs, r = (.inr (some (.int ρ)), NF, s) := ⟨_, rfl⟩
  rw [← hr]
  refine met_of_E rfl rfl (by decide +kernel) hfl rfl (Nat.le_of_ble_eq_true rfl) ?_
  show E l X_X1_isPowerShort r false NF s 0 0 0 [(0, .ref v0), (1, .ref v1), (2, .int v2), (3, .int v3)] []
  refine E_iload_n (j := 3) (i := 3) (q := 3) rfl rfl dX1_isPowerShort_0 ?_
  obtain ⟨q8, h9, hF⟩ := bd_inv hF
  refine E_callSN (na := 1) (As := [.int v3]) (S := []) (kc := 0) (ks := 0) cwNS_RX1_163 ⟨Nat.le_of_ble_eq_true rfl, Nat.le_of_ble_eq_true rfl⟩ (T_X7_isCircuit hfl fl _ _  _ h9) rfl rfl rfl (Nat.le_of_ble_eq_true rfl) dX1_isPowerShort_1 ?_
  refine E_if_ne (tgt := 9) rfl dX1_isPowerShort_4 (fun c10 => ?_) (fun c10 => ?_)
  · have hF := ite_f hF c10
    refine E_aload_n (j := 1) (i := 1) (q := 1) rfl rfl dX1_isPowerShort_9 ?_
    refine gf_RX1_86 rfl hv1 (shape_ord hv1).1 dX1_isPowerShort_10 ?_
    refine E_istore (L' := [(4, .int (gI s v1 4)), (0, .ref v0), (1, .ref v1), (2, .int v2), (3, .int v3)]) (Nat.le_of_ble_eq_true rfl) rfl dX1_isPowerShort_13 ?_
    refine E_sub [1, 2, 3, 4, 0] rfl ?_
    exact T_X1_isPowerShort_15 hfl fl hr  fl _ _ _ _ _ hv0 hv1 hF
  · have hF := ite_t hF c10
    refine E_iconst (v := (0 : Int32)) rfl dX1_isPowerShort_7 ?_
    exact E_zret (ty := .boolean) (Or.inl rfl) rfl rfl (by cases hF; exact hr) dX1_isPowerShort_8
set_option maxHeartbeats 4000000 in
set_option maxRecDepth 100000 in
theorem T_X1_obstacleOf {l : Launch} (hfl : l.stackTraces = false) (fl : Nat) (v0 : Nat) (v1 : Nat) (v2 : Int32) (v3 : Int32) (s : Mem) (hv0 : shape v0 = some (.inl 3)) (hv1 : shape v1 = some (.inl 5)) (ρ : Int32) (hF : F_X1_obstacleOf fl v0 v1 v2 v3 s = some ρ) : MetN l X_X1_obstacleOf false NF s [.ref v0, .ref v1, .int v2, .int v3] (.inr (some (.int ρ)), NF, s) := by
  unfold F_X1_obstacleOf at hF
  obtain ⟨r, hr⟩ : ∃ r : Rs, r = (.inr (some (.int ρ)), NF, s) := ⟨_, rfl⟩
  rw [← hr]
  refine met_of_E rfl rfl (by decide +kernel) hfl rfl (Nat.le_of_ble_eq_true rfl) ?_
  show E l X_X1_obstacleOf r false NF s 0 0 0 [(0, .ref v0), (1, .ref v1), (2, .int v2), (3, .int v3)] []
  refine E_aload_n (j := 0) (i := 0) (q := 0) rfl rfl dX1_obstacleOf_0 ?_
  refine E_aload_n (j := 1) (i := 1) (q := 1) rfl rfl dX1_obstacleOf_1 ?_
  refine E_iload_n (j := 3) (i := 3) (q := 3) rfl rfl dX1_obstacleOf_2 ?_
  obtain ⟨q1, h2, hF⟩ := bd_inv hF
  refine E_callV (na := 2) (As := [.ref v1, .int v3]) (S := []) (kc := 0) (ks := 0) (ci := 3) rfl rfl hv0 (shape_ord hv0).1 cwV_RX1_144 ⟨Nat.le_of_ble_eq_true rfl, Nat.le_of_ble_eq_true rfl⟩ (T_X1_hasFit hfl fl _ _ _ _ hv0 hv1 _ h2) rfl rfl rfl (Nat.le_of_ble_eq_true rfl) dX1_obstacleOf_3 ?_
  refine E_if_ne (tgt := 11) rfl dX1_obstacleOf_6 (fun c3 => ?_) (fun c3 => ?_)
  · have hF := ite_f hF c3
    refine E_aload_n (j := 0) (i := 0) (q := 0) rfl rfl dX1_obstacleOf_11 ?_
    refine E_iload_n (j := 3) (i := 3) (q := 3) rfl rfl dX1_obstacleOf_12 ?_
    refine E_iload_n (j := 2) (i := 2) (q := 2) rfl rfl dX1_obstacleOf_13 ?_
    obtain ⟨q4, h5, hF⟩ := bd_inv hF
    refine E_callV (na := 2) (As := [.int v3, .int v2]) (S := []) (kc := 0) (ks := 0) (ci := 3) rfl rfl hv0 (shape_ord hv0).1 cwV_RX1_148 ⟨Nat.le_of_ble_eq_true rfl, Nat.le_of_ble_eq_true rfl⟩ (T_X1_busyNights hfl fl _ _ _ _ hv0 _ h5) rfl rfl rfl (Nat.le_of_ble_eq_true rfl) dX1_obstacleOf_14 ?_
    refine E_lstore (L' := [(4, .long q4), (0, .ref v0), (1, .ref v1), (2, .int v2), (3, .int v3)]) (Nat.le_of_ble_eq_true rfl) rfl dX1_obstacleOf_17 ?_
    refine E_lload (q := 0) rfl dX1_obstacleOf_19 ?_
    refine E_aload_n (j := 1) (i := 1) (q := 2) rfl rfl dX1_obstacleOf_21 ?_
    refine gf_RX1_118 rfl hv1 (shape_ord hv1).1 dX1_obstacleOf_22 ?_
    refine E_land dX1_obstacleOf_25 ?_
    refine E_lconst (v := (0 : Int64)) rfl dX1_obstacleOf_26 ?_
    refine E_lcmp dX1_obstacleOf_27 ?_
    refine E_if_eq (tgt := 33) rfl dX1_obstacleOf_28 (fun c6 => ?_) (fun c6 => ?_)
    · have hF := ite_t hF c6
      refine E_aload_n (j := 0) (i := 0) (q := 1) rfl rfl dX1_obstacleOf_33 ?_
      refine E_aload_n (j := 1) (i := 1) (q := 2) rfl rfl dX1_obstacleOf_34 ?_
      refine E_iload_n (j := 2) (i := 2) (q := 3) rfl rfl dX1_obstacleOf_35 ?_
      refine E_aload_n (j := 0) (i := 0) (q := 1) rfl rfl dX1_obstacleOf_36 ?_
      refine E_iload_n (j := 3) (i := 3) (q := 4) rfl rfl dX1_obstacleOf_37 ?_
      obtain ⟨q7, h8, hF⟩ := bd_inv hF
      refine E_callV (na := 1) (As := [.int v3]) (S := [.int v2, .ref v1, .ref v0]) (kc := 0) (ks := 0) (ci := 3) rfl rfl hv0 (shape_ord hv0).1 cwV_RX1_125 ⟨Nat.le_of_ble_eq_true rfl, Nat.le_of_ble_eq_true rfl⟩ (T_X1_circuitOf hfl fl _ _ _ hv0 _ h8) rfl rfl rfl (Nat.le_of_ble_eq_true rfl) dX1_obstacleOf_38 ?_
      obtain ⟨q9, h10, hF⟩ := bd_inv hF
      refine E_callV (na := 3) (As := [.ref v1, .int v2, .int q7]) (S := []) (kc := 0) (ks := 0) (ci := 3) rfl rfl hv0 (shape_ord hv0).1 cwV_RX1_152 ⟨Nat.le_of_ble_eq_true rfl, Nat.le_of_ble_eq_true rfl⟩ (T_X1_isPowerShort hfl fl _ _ _ _ _ hv0 hv1 _ h10) rfl rfl rfl (Nat.le_of_ble_eq_true rfl) dX1_obstacleOf_41 ?_
      refine E_if_eq (tgt := 49) rfl dX1_obstacleOf_44 (fun c11 => ?_) (fun c11 => ?_)
      · have hF := ite_t hF c11
        refine E_aload_n (j := 0) (i := 0) (q := 1) rfl rfl dX1_obstacleOf_49 ?_
        refine E_aload_n (j := 1) (i := 1) (q := 2) rfl rfl dX1_obstacleOf_50 ?_
        refine E_lload (q := 0) rfl dX1_obstacleOf_51 ?_
        obtain ⟨q12, h13, hF⟩ := bd_inv hF
        refine E_callV (na := 2) (As := [.ref v1, .long q4]) (S := []) (kc := 0) (ks := 0) (ci := 3) rfl rfl hv0 (shape_ord hv0).1 cwV_RX1_156 ⟨Nat.le_of_ble_eq_true rfl, Nat.le_of_ble_eq_true rfl⟩ (T_X1_isTooShort hfl fl _ _ _ _ hv0 hv1 _ h13) rfl rfl rfl (Nat.le_of_ble_eq_true rfl) dX1_obstacleOf_53 ?_
        refine E_if_eq (tgt := 61) rfl dX1_obstacleOf_56 (fun c14 => ?_) (fun c14 => ?_)
        · have hF := ite_t hF c14
          refine E_aload_n (j := 0) (i := 0) (q := 1) rfl rfl dX1_obstacleOf_61 ?_
          refine E_lload (q := 0) rfl dX1_obstacleOf_62 ?_
          refine E_aload_n (j := 1) (i := 1) (q := 2) rfl rfl dX1_obstacleOf_64 ?_
          refine gf_RX1_118 rfl hv1 (shape_ord hv1).1 dX1_obstacleOf_65 ?_
          refine E_lor dX1_obstacleOf_68 ?_
          obtain ⟨q15, h16, hF⟩ := bd_inv hF
          refine E_callV (na := 1) (As := [.long (q4 ||| (gL s v1 6))]) (S := []) (kc := 0) (ks := 0) (ci := 3) rfl rfl hv0 (shape_ord hv0).1 cwV_RX1_160 ⟨Nat.le_of_ble_eq_true rfl, Nat.le_of_ble_eq_true rfl⟩ (T_X1_countGaps hfl fl _ _ _ hv0 _ h16) rfl rfl rfl (Nat.le_of_ble_eq_true rfl) dX1_obstacleOf_69 ?_
          refine E_aload_n (j := 0) (i := 0) (q := 1) rfl rfl dX1_obstacleOf_72 ?_
          refine E_lload (q := 0) rfl dX1_obstacleOf_73 ?_
          obtain ⟨q17, h18, hF⟩ := bd_inv hF
          refine E_callV (na := 1) (As := [.long q4]) (S := [.int q15]) (kc := 0) (ks := 0) (ci := 3) rfl rfl hv0 (shape_ord hv0).1 cwV_RX1_160 ⟨Nat.le_of_ble_eq_true rfl, Nat.le_of_ble_eq_true rfl⟩ (T_X1_countGaps hfl fl _ _ _ hv0 _ h18) rfl rfl rfl (Nat.le_of_ble_eq_true rfl) dX1_obstacleOf_75 ?_
          refine E_icmp_le (tgt := 85) rfl dX1_obstacleOf_78 (fun c19 => ?_) (fun c19 => ?_)
          · have hF := ite_t hF c19
            refine E_iconst (v := (0 : Int32)) rfl dX1_obstacleOf_85 ?_
            exact E_iret (Or.inl rfl) rfl (by cases hF; exact hr) dX1_obstacleOf_86
          · have hF := ite_f hF c19
            refine E_iconst (v := (5 : Int32)) rfl dX1_obstacleOf_81 ?_
            refine E_goto (tgt := 86) rfl dX1_obstacleOf_82 ?_
            exact E_iret (Or.inl rfl) rfl (by cases hF; exact hr) dX1_obstacleOf_86
        · have hF := ite_f hF c14
          refine E_iconst (v := (4 : Int32)) rfl dX1_obstacleOf_59 ?_
          exact E_iret (Or.inl rfl) rfl (by cases hF; exact hr) dX1_obstacleOf_60
      · have hF := ite_f hF c11
        refine E_iconst (v := (3 : Int32)) rfl dX1_obstacleOf_47 ?_
        exact E_iret (Or.inl rfl) rfl (by cases hF; exact hr) dX1_obstacleOf_48
    · have hF := ite_f hF c6
      refine E_iconst (v := (2 : Int32)) rfl dX1_obstacleOf_31 ?_
      exact E_iret (Or.inl rfl) rfl (by cases hF; exact hr) dX1_obstacleOf_32
  · have hF := ite_t hF c3
    refine E_iconst (v := (1 : Int32)) rfl dX1_obstacleOf_9 ?_
    exact E_iret (Or.inl rfl) rfl (by cases hF; exact hr) dX1_obstacleOf_10
set_option maxHeartbeats 4000000 in
set_option maxRecDepth 100000 in
theorem T_J9_max_7cf53 {l : Launch} (hfl : l.stackTraces = false) (fl : Nat) (v0 : Int32) (v1 : Int32) (s : Mem) (ρ : Int32) (hF : F_J9_max_7cf53 fl v0 v1 s = some ρ) : MetN l X_J9_max_7cf53 false NF s [.int v0, .int v1] (.inr (some (.int ρ)), NF, s) := by
  unfold F_J9_max_7cf53 at hF
  obtain ⟨r, hr⟩ : ∃ r : Rs, r = (.inr (some (.int ρ)), NF, s) := ⟨_, rfl⟩
  rw [← hr]
  refine met_of_EF rfl rfl (by decide +kernel) hfl rfl (Nat.le_of_ble_eq_true rfl) ?_
  show E l X_J9_max_7cf53 r false NF s 0 0 0 [(0, .int v0), (1, .int v1)] []
  refine E_iload_n (j := 0) (i := 0) (q := 0) rfl rfl dJ9_max_7cf53_0 ?_
  refine E_iload_n (j := 1) (i := 1) (q := 1) rfl rfl dJ9_max_7cf53_1 ?_
  refine E_icmp_lt (tgt := 9) rfl dJ9_max_7cf53_2 (fun c1 => ?_) (fun c1 => ?_)
  · have hF := ite_t hF c1
    refine E_iload_n (j := 1) (i := 1) (q := 1) rfl rfl dJ9_max_7cf53_9 ?_
    exact E_iret (Or.inl rfl) rfl (by cases hF; exact hr) dJ9_max_7cf53_10
  · have hF := ite_f hF c1
    refine E_iload_n (j := 0) (i := 0) (q := 0) rfl rfl dJ9_max_7cf53_5 ?_
    refine E_goto (tgt := 10) rfl dJ9_max_7cf53_6 ?_
    exact E_iret (Or.inl rfl) rfl (by cases hF; exact hr) dJ9_max_7cf53_10
set_option maxHeartbeats 4000000 in
set_option maxRecDepth 100000 in
theorem T_X1_greatestObstacle_4 {l : Launch} (hfl : l.stackTraces = false) (fl : Nat) {r : Rs} {ρ : Int32} {s : Mem} (hr : r = (.inr (some (.int ρ)), NF, s)) : ∀ (n : Nat) (v0 : Nat) (v1 : Nat) (v2 : Int32) (v3 : Int32) (hv0 : shape v0 = some (.inl 3)) (hv1 : shape v1 = some (.inl 5)), B_X1_greatestObstacle_4 fl s n v0 v1 v2 v3 = some ρ → E l X_X1_greatestObstacle r false NF s 0 0 4 [(0, .ref v0), (1, .ref v1), (2, .int v2), (3, .int v3)] [] := by
  intro n
  induction n with
  | zero =>
    intro v0 v1 v2 v3 hv0 hv1 hF
    cases hF
  | succ n ih =>
    intro v0 v1 v2 v3 hv0 hv1 hF
    refine E_iload_n (j := 3) (i := 3) (q := 3) rfl rfl dX1_greatestObstacle_4 ?_
    refine E_aload_n (j := 0) (i := 0) (q := 0) rfl rfl dX1_greatestObstacle_5 ?_
    refine gf_RX1_40 rfl hv0 (shape_ord hv0).1 dX1_greatestObstacle_6 ?_
    refine E_icmp_ge (tgt := 30) rfl dX1_greatestObstacle_9 (fun c1 => ?_) (fun c1 => ?_)
    · have hF := ite_t hF c1
      refine E_iload_n (j := 2) (i := 2) (q := 2) rfl rfl dX1_greatestObstacle_30 ?_
      exact E_iret (Or.inl rfl) rfl (by cases hF; exact hr) dX1_greatestObstacle_31
    · have hF := ite_f hF c1
      refine E_iload_n (j := 2) (i := 2) (q := 2) rfl rfl dX1_greatestObstacle_12 ?_
      refine E_aload_n (j := 0) (i := 0) (q := 0) rfl rfl dX1_greatestObstacle_13 ?_
      refine E_aload_n (j := 1) (i := 1) (q := 1) rfl rfl dX1_greatestObstacle_14 ?_
      refine E_iconst (v := (-1 : Int32)) rfl dX1_greatestObstacle_15 ?_
      refine E_iload_n (j := 3) (i := 3) (q := 3) rfl rfl dX1_greatestObstacle_16 ?_
      obtain ⟨q2, h3, hF⟩ := bd_inv hF
      refine E_callV (na := 3) (As := [.ref v1, .int (-1 : Int32), .int v3]) (S := [.int v2]) (kc := 0) (ks := 0) (ci := 3) rfl rfl hv0 (shape_ord hv0).1 cwV_RX1_170 ⟨Nat.le_of_ble_eq_true rfl, Nat.le_of_ble_eq_true rfl⟩ (T_X1_obstacleOf hfl fl _ _ _ _ _ hv0 hv1 _ h3) rfl rfl rfl (Nat.le_of_ble_eq_true rfl) dX1_greatestObstacle_17 ?_
      obtain ⟨q4, h5, hF⟩ := bd_inv hF
      refine E_callS (na := 2) (As := [.int v2, .int q2]) (S := []) (kc := 0) (ks := 0) cwS_RX1_174 ⟨Nat.le_of_ble_eq_true rfl, Nat.le_of_ble_eq_true rfl⟩ (T_J9_max_7cf53 hfl fl _ _ _  _ h5) rfl rfl rfl (Nat.le_of_ble_eq_true rfl) dX1_greatestObstacle_20 ?_
      refine E_istore_n (j := 2) (i := 2) (L' := [(2, .int q4), (0, .ref v0), (1, .ref v1), (3, .int v3)]) rfl (Nat.le_of_ble_eq_true rfl) rfl dX1_greatestObstacle_23 ?_
      refine E_iinc (q := 3) (v := (v3 + (1 : Int32))) (L' := [(3, .int (v3 + (1 : Int32))), (2, .int q4), (0, .ref v0), (1, .ref v1)]) rfl rfl (Nat.le_of_ble_eq_true rfl) rfl dX1_greatestObstacle_24 ?_
      refine E_goto (tgt := 4) rfl dX1_greatestObstacle_27 ?_
      refine E_sub [2, 3, 1, 0] rfl ?_
      exact ih _ _ _ _ hv0 hv1 hF
set_option maxHeartbeats 4000000 in
set_option maxRecDepth 100000 in
theorem T_X1_greatestObstacle {l : Launch} (hfl : l.stackTraces = false) (fl : Nat) (v0 : Nat) (v1 : Nat) (s : Mem) (hv0 : shape v0 = some (.inl 3)) (hv1 : shape v1 = some (.inl 5)) (ρ : Int32) (hF : F_X1_greatestObstacle fl v0 v1 s = some ρ) : MetN l X_X1_greatestObstacle false NF s [.ref v0, .ref v1] (.inr (some (.int ρ)), NF, s) := by
  unfold F_X1_greatestObstacle at hF
  obtain ⟨r, hr⟩ : ∃ r : Rs, r = (.inr (some (.int ρ)), NF, s) := ⟨_, rfl⟩
  rw [← hr]
  refine met_of_E rfl rfl (by decide +kernel) hfl rfl (Nat.le_of_ble_eq_true rfl) ?_
  show E l X_X1_greatestObstacle r false NF s 0 0 0 [(0, .ref v0), (1, .ref v1)] []
  refine E_iconst (v := (1 : Int32)) rfl dX1_greatestObstacle_0 ?_
  refine E_istore_n (j := 2) (i := 2) (L' := [(2, .int (1 : Int32)), (0, .ref v0), (1, .ref v1)]) rfl (Nat.le_of_ble_eq_true rfl) rfl dX1_greatestObstacle_1 ?_
  refine E_iconst (v := (0 : Int32)) rfl dX1_greatestObstacle_2 ?_
  refine E_istore_n (j := 3) (i := 3) (L' := [(3, .int (0 : Int32)), (2, .int (1 : Int32)), (0, .ref v0), (1, .ref v1)]) rfl (Nat.le_of_ble_eq_true rfl) rfl dX1_greatestObstacle_3 ?_
  refine E_sub [2, 3, 1, 0] rfl ?_
  exact T_X1_greatestObstacle_4 hfl fl hr  fl _ _ _ _ hv0 hv1 hF
set_option maxHeartbeats 4000000 in
set_option maxRecDepth 100000 in
theorem T_X1_countArrivals_58 {l : Launch} (hfl : l.stackTraces = false) (fl : Nat) {r : Rs} {ρ : Int32} {s : Mem} (hr : r = (.inr (some (.int ρ)), NF, s)) {k5 : Nat → Int32 → Int32 → Int32 → Int32 → Option Int32} (hk5 : ∀ (v0 : Nat) (v1 : Int32) (v2 : Int32) (v3 : Int32) (v4 : Int32) (hv0 : shape v0 = some (.inl 3)), k5 v0 v1 v2 v3 v4 = some ρ → E l X_X1_countArrivals r false NF s 0 0 5 [(0, .ref v0), (1, .int v1), (2, .int v2), (3, .int v3), (4, .int v4)] []) (v0 : Nat) (v1 : Int32) (v2 : Int32) (v3 : Int32) (v4 : Int32) (hv0 : shape v0 = some (.inl 3)) (hF : B_X1_countArrivals_58 k5 fl s v0 v1 v2 v3 v4 = some ρ) : E l X_X1_countArrivals r false NF s 0 0 58 [(0, .ref v0), (1, .int v1), (2, .int v2), (3, .int v3), (4, .int v4)] [] := by
  unfold B_X1_countArrivals_58 at hF
  refine E_iinc (q := 4) (v := (v4 + (1 : Int32))) (L' := [(4, .int (v4 + (1 : Int32))), (0, .ref v0), (1, .int v1), (2, .int v2), (3, .int v3)]) rfl rfl (Nat.le_of_ble_eq_true rfl) rfl dX1_countArrivals_58 ?_
  refine E_goto (tgt := 5) rfl dX1_countArrivals_61 ?_
  refine E_sub [1, 2, 3, 4, 0] rfl ?_
  exact hk5 _ _ _ _ _ hv0 hF
set_option maxHeartbeats 4000000 in
set_option maxRecDepth 100000 in
theorem T_X1_countArrivals_5 {l : Launch} (hfl : l.stackTraces = false) (fl : Nat) {r : Rs} {ρ : Int32} {s : Mem} (hr : r = (.inr (some (.int ρ)), NF, s)) : ∀ (n : Nat) (v0 : Nat) (v1 : Int32) (v2 : Int32) (v3 : Int32) (v4 : Int32) (hv0 : shape v0 = some (.inl 3)), B_X1_countArrivals_5 fl s n v0 v1 v2 v3 v4 = some ρ → E l X_X1_countArrivals r false NF s 0 0 5 [(0, .ref v0), (1, .int v1), (2, .int v2), (3, .int v3), (4, .int v4)] [] := by
  intro n
  induction n with
  | zero =>
    intro v0 v1 v2 v3 v4 hv0 hF
    cases hF
  | succ n ih =>
    intro v0 v1 v2 v3 v4 hv0 hF
    refine E_iload (q := 4) rfl dX1_countArrivals_5 ?_
    refine E_aload_n (j := 0) (i := 0) (q := 0) rfl rfl dX1_countArrivals_7 ?_
    refine gf_RX1_47 rfl hv0 (shape_ord hv0).1 dX1_countArrivals_8 ?_
    refine E_icmp_ge (tgt := 64) rfl dX1_countArrivals_11 (fun c1 => ?_) (fun c1 => ?_)
    · have hF := ite_t hF c1
      refine E_iload_n (j := 3) (i := 3) (q := 3) rfl rfl dX1_countArrivals_64 ?_
      exact E_iret (Or.inl rfl) rfl (by cases hF; exact hr) dX1_countArrivals_65
    · have hF := ite_f hF c1
      refine E_aload_n (j := 0) (i := 0) (q := 0) rfl rfl dX1_countArrivals_14 ?_
      obtain ⟨r2, h3, hF⟩ := bd_inv hF
      have h3 := ldA_inv h3
      refine gf_RX1_20 rfl hv0 (shape_ord hv0).1 h3.1 dX1_countArrivals_15 ?_
      refine E_iload (q := 4) rfl dX1_countArrivals_18 ?_
      obtain ⟨h4, hF⟩ := gd_inv hF
      obtain ⟨r5, h6, hF⟩ := bd_inv hF
      have h6 := ldO_inv h6
      refine E_aald _ ⟨Nat.le_of_ble_eq_true rfl, Nat.le_of_ble_eq_true rfl⟩ h3.2 (shape_ord h3.2).1 h4 h6.1 dX1_countArrivals_20 ?_
      refine gf_RX1_82 rfl h6.2 (shape_ord h6.2).1 dX1_countArrivals_21 ?_
      refine E_if_eq (tgt := 58) rfl dX1_countArrivals_24 (fun c7 => ?_) (fun c7 => ?_)
      · have hF := ite_t hF c7
        refine E_sub [0, 1, 2, 3, 4] rfl ?_
        exact T_X1_countArrivals_58 hfl fl hr ih _ _ _ _ _ hv0 hF
      · have hF := ite_f hF c7
        refine E_aload_n (j := 0) (i := 0) (q := 0) rfl rfl dX1_countArrivals_27 ?_
        obtain ⟨r8, h9, hF⟩ := bd_inv hF
        have h9 := ldA_inv h9
        refine gf_RX1_20 rfl hv0 (shape_ord hv0).1 h9.1 dX1_countArrivals_28 ?_
        refine E_iload (q := 4) rfl dX1_countArrivals_31 ?_
        obtain ⟨h10, hF⟩ := gd_inv hF
        obtain ⟨r11, h12, hF⟩ := bd_inv hF
        have h12 := ldO_inv h12
        refine E_aald _ ⟨Nat.le_of_ble_eq_true rfl, Nat.le_of_ble_eq_true rfl⟩ h9.2 (shape_ord h9.2).1 h10 h12.1 dX1_countArrivals_33 ?_
        refine gf_RX1_86 rfl h12.2 (shape_ord h12.2).1 dX1_countArrivals_34 ?_
        refine E_iload_n (j := 1) (i := 1) (q := 1) rfl rfl dX1_countArrivals_37 ?_
        refine E_icmp_lt (tgt := 58) rfl dX1_countArrivals_38 (fun c13 => ?_) (fun c13 => ?_)
        · have hF := ite_t hF c13
          refine E_sub [0, 1, 2, 3, 4] rfl ?_
          exact T_X1_countArrivals_58 hfl fl hr ih _ _ _ _ _ hv0 hF
        · have hF := ite_f hF c13
          refine E_aload_n (j := 0) (i := 0) (q := 0) rfl rfl dX1_countArrivals_41 ?_
          obtain ⟨r14, h15, hF⟩ := bd_inv hF
          have h15 := ldA_inv h15
          refine gf_RX1_20 rfl hv0 (shape_ord hv0).1 h15.1 dX1_countArrivals_42 ?_
          refine E_iload (q := 4) rfl dX1_countArrivals_45 ?_
          obtain ⟨h16, hF⟩ := gd_inv hF
          obtain ⟨r17, h18, hF⟩ := bd_inv hF
          have h18 := ldO_inv h18
          refine E_aald _ ⟨Nat.le_of_ble_eq_true rfl, Nat.le_of_ble_eq_true rfl⟩ h15.2 (shape_ord h15.2).1 h16 h18.1 dX1_countArrivals_47 ?_
          refine gf_RX1_86 rfl h18.2 (shape_ord h18.2).1 dX1_countArrivals_48 ?_
          refine E_iload_n (j := 2) (i := 2) (q := 2) rfl rfl dX1_countArrivals_51 ?_
          refine E_icmp_ge (tgt := 58) rfl dX1_countArrivals_52 (fun c19 => ?_) (fun c19 => ?_)
          · have hF := ite_t hF c19
            refine E_sub [0, 1, 2, 3, 4] rfl ?_
            exact T_X1_countArrivals_58 hfl fl hr ih _ _ _ _ _ hv0 hF
          · have hF := ite_f hF c19
            refine E_iinc (q := 3) (v := (v3 + (1 : Int32))) (L' := [(3, .int (v3 + (1 : Int32))), (0, .ref v0), (1, .int v1), (2, .int v2), (4, .int v4)]) rfl rfl (Nat.le_of_ble_eq_true rfl) rfl dX1_countArrivals_55 ?_
            refine E_sub [1, 2, 3, 0, 4] rfl ?_
            exact T_X1_countArrivals_58 hfl fl hr ih _ _ _ _ _ hv0 hF
set_option maxHeartbeats 4000000 in
set_option maxRecDepth 100000 in
theorem T_X1_countArrivals {l : Launch} (hfl : l.stackTraces = false) (fl : Nat) (v0 : Nat) (v1 : Int32) (v2 : Int32) (s : Mem) (hv0 : shape v0 = some (.inl 3)) (ρ : Int32) (hF : F_X1_countArrivals fl v0 v1 v2 s = some ρ) : MetN l X_X1_countArrivals false NF s [.ref v0, .int v1, .int v2] (.inr (some (.int ρ)), NF, s) := by
  unfold F_X1_countArrivals at hF
  obtain ⟨r, hr⟩ : ∃ r : Rs, r = (.inr (some (.int ρ)), NF, s) := ⟨_, rfl⟩
  rw [← hr]
  refine met_of_E rfl rfl (by decide +kernel) hfl rfl (Nat.le_of_ble_eq_true rfl) ?_
  show E l X_X1_countArrivals r false NF s 0 0 0 [(0, .ref v0), (1, .int v1), (2, .int v2)] []
  refine E_iconst (v := (0 : Int32)) rfl dX1_countArrivals_0 ?_
  refine E_istore_n (j := 3) (i := 3) (L' := [(3, .int (0 : Int32)), (0, .ref v0), (1, .int v1), (2, .int v2)]) rfl (Nat.le_of_ble_eq_true rfl) rfl dX1_countArrivals_1 ?_
  refine E_iconst (v := (0 : Int32)) rfl dX1_countArrivals_2 ?_
  refine E_istore (L' := [(4, .int (0 : Int32)), (3, .int (0 : Int32)), (0, .ref v0), (1, .int v1), (2, .int v2)]) (Nat.le_of_ble_eq_true rfl) rfl dX1_countArrivals_3 ?_
  refine E_sub [2, 3, 4, 1, 0] rfl ?_
  exact T_X1_countArrivals_5 hfl fl hr  fl _ _ _ _ _ hv0 hF
set_option maxHeartbeats 4000000 in
set_option maxRecDepth 100000 in
theorem T_X1_countBooked_27 {l : Launch} (hfl : l.stackTraces = false) (fl : Nat) {r : Rs} {ρ : Int32} {s : Mem} (hr : r = (.inr (some (.int ρ)), NF, s)) {k4 : Nat → Int32 → Int32 → Option Int32} (hk4 : ∀ (v0 : Nat) (v1 : Int32) (v2 : Int32) (hv0 : shape v0 = some (.inl 3)), k4 v0 v1 v2 = some ρ → E l X_X1_countBooked r false NF s 0 0 4 [(0, .ref v0), (1, .int v1), (2, .int v2)] []) (v0 : Nat) (v1 : Int32) (v2 : Int32) (hv0 : shape v0 = some (.inl 3)) (hF : B_X1_countBooked_27 k4 fl s v0 v1 v2 = some ρ) : E l X_X1_countBooked r false NF s 0 0 27 [(0, .ref v0), (1, .int v1), (2, .int v2)] [] := by
  unfold B_X1_countBooked_27 at hF
  refine E_iinc (q := 2) (v := (v2 + (1 : Int32))) (L' := [(2, .int (v2 + (1 : Int32))), (0, .ref v0), (1, .int v1)]) rfl rfl (Nat.le_of_ble_eq_true rfl) rfl dX1_countBooked_27 ?_
  refine E_goto (tgt := 4) rfl dX1_countBooked_30 ?_
  refine E_sub [1, 2, 0] rfl ?_
  exact hk4 _ _ _ hv0 hF
set_option maxHeartbeats 4000000 in
set_option maxRecDepth 100000 in
theorem T_X1_countBooked_4 {l : Launch} (hfl : l.stackTraces = false) (fl : Nat) {r : Rs} {ρ : Int32} {s : Mem} (hr : r = (.inr (some (.int ρ)), NF, s)) : ∀ (n : Nat) (v0 : Nat) (v1 : Int32) (v2 : Int32) (hv0 : shape v0 = some (.inl 3)), B_X1_countBooked_4 fl s n v0 v1 v2 = some ρ → E l X_X1_countBooked r false NF s 0 0 4 [(0, .ref v0), (1, .int v1), (2, .int v2)] [] := by
  intro n
  induction n with
  | zero =>
    intro v0 v1 v2 hv0 hF
    cases hF
  | succ n ih =>
    intro v0 v1 v2 hv0 hF
    refine E_iload_n (j := 2) (i := 2) (q := 2) rfl rfl dX1_countBooked_4 ?_
    refine E_aload_n (j := 0) (i := 0) (q := 0) rfl rfl dX1_countBooked_5 ?_
    refine gf_RX1_47 rfl hv0 (shape_ord hv0).1 dX1_countBooked_6 ?_
    refine E_icmp_ge (tgt := 33) rfl dX1_countBooked_9 (fun c1 => ?_) (fun c1 => ?_)
    · have hF := ite_t hF c1
      refine E_iload_n (j := 1) (i := 1) (q := 1) rfl rfl dX1_countBooked_33 ?_
      exact E_iret (Or.inl rfl) rfl (by cases hF; exact hr) dX1_countBooked_34
    · have hF := ite_f hF c1
      refine E_aload_n (j := 0) (i := 0) (q := 0) rfl rfl dX1_countBooked_12 ?_
      obtain ⟨r2, h3, hF⟩ := bd_inv hF
      have h3 := ldA_inv h3
      refine gf_RX1_20 rfl hv0 (shape_ord hv0).1 h3.1 dX1_countBooked_13 ?_
      refine E_iload_n (j := 2) (i := 2) (q := 2) rfl rfl dX1_countBooked_16 ?_
      obtain ⟨h4, hF⟩ := gd_inv hF
      obtain ⟨r5, h6, hF⟩ := bd_inv hF
      have h6 := ldO_inv h6
      refine E_aald _ ⟨Nat.le_of_ble_eq_true rfl, Nat.le_of_ble_eq_true rfl⟩ h3.2 (shape_ord h3.2).1 h4 h6.1 dX1_countBooked_17 ?_
      refine gf_RX1_82 rfl h6.2 (shape_ord h6.2).1 dX1_countBooked_18 ?_
      refine E_if_eq (tgt := 27) rfl dX1_countBooked_21 (fun c7 => ?_) (fun c7 => ?_)
      · have hF := ite_t hF c7
        refine E_sub [0, 1, 2] rfl ?_
        exact T_X1_countBooked_27 hfl fl hr ih _ _ _ hv0 hF
      · have hF := ite_f hF c7
        refine E_iinc (q := 1) (v := (v1 + (1 : Int32))) (L' := [(1, .int (v1 + (1 : Int32))), (0, .ref v0), (2, .int v2)]) rfl rfl (Nat.le_of_ble_eq_true rfl) rfl dX1_countBooked_24 ?_
        refine E_sub [1, 0, 2] rfl ?_
        exact T_X1_countBooked_27 hfl fl hr ih _ _ _ hv0 hF
set_option maxHeartbeats 4000000 in
set_option maxRecDepth 100000 in
theorem T_X1_countBooked {l : Launch} (hfl : l.stackTraces = false) (fl : Nat) (v0 : Nat) (s : Mem) (hv0 : shape v0 = some (.inl 3)) (ρ : Int32) (hF : F_X1_countBooked fl v0 s = some ρ) : MetN l X_X1_countBooked false NF s [.ref v0] (.inr (some (.int ρ)), NF, s) := by
  unfold F_X1_countBooked at hF
  obtain ⟨r, hr⟩ : ∃ r : Rs, r = (.inr (some (.int ρ)), NF, s) := ⟨_, rfl⟩
  rw [← hr]
  refine met_of_E rfl rfl (by decide +kernel) hfl rfl (Nat.le_of_ble_eq_true rfl) ?_
  show E l X_X1_countBooked r false NF s 0 0 0 [(0, .ref v0)] []
  refine E_iconst (v := (0 : Int32)) rfl dX1_countBooked_0 ?_
  refine E_istore_n (j := 1) (i := 1) (L' := [(1, .int (0 : Int32)), (0, .ref v0)]) rfl (Nat.le_of_ble_eq_true rfl) rfl dX1_countBooked_1 ?_
  refine E_iconst (v := (0 : Int32)) rfl dX1_countBooked_2 ?_
  refine E_istore_n (j := 2) (i := 2) (L' := [(2, .int (0 : Int32)), (1, .int (0 : Int32)), (0, .ref v0)]) rfl (Nat.le_of_ble_eq_true rfl) rfl dX1_countBooked_3 ?_
  refine E_sub [2, 1, 0] rfl ?_
  exact T_X1_countBooked_4 hfl fl hr  fl _ _ _ hv0 hF
set_option maxHeartbeats 4000000 in
set_option maxRecDepth 100000 in
theorem T_X1_sumPrices_36 {l : Launch} (hfl : l.stackTraces = false) (fl : Nat) {r : Rs} {ρ : Int32} {s : Mem} (hr : r = (.inr (some (.int ρ)), NF, s)) {k4 : Nat → Int32 → Int32 → Option Int32} (hk4 : ∀ (v0 : Nat) (v1 : Int32) (v2 : Int32) (hv0 : shape v0 = some (.inl 3)), k4 v0 v1 v2 = some ρ → E l X_X1_sumPrices r false NF s 0 0 4 [(0, .ref v0), (1, .int v1), (2, .int v2)] []) (v0 : Nat) (v1 : Int32) (v2 : Int32) (hv0 : shape v0 = some (.inl 3)) (hF : B_X1_sumPrices_36 k4 fl s v0 v1 v2 = some ρ) : E l X_X1_sumPrices r false NF s 0 0 36 [(0, .ref v0), (1, .int v1), (2, .int v2)] [] := by
  unfold B_X1_sumPrices_36 at hF
  refine E_iinc (q := 2) (v := (v2 + (1 : Int32))) (L' := [(2, .int (v2 + (1 : Int32))), (0, .ref v0), (1, .int v1)]) rfl rfl (Nat.le_of_ble_eq_true rfl) rfl dX1_sumPrices_36 ?_
  refine E_goto (tgt := 4) rfl dX1_sumPrices_39 ?_
  refine E_sub [1, 2, 0] rfl ?_
  exact hk4 _ _ _ hv0 hF
set_option maxHeartbeats 4000000 in
set_option maxRecDepth 100000 in
theorem T_X1_sumPrices_4 {l : Launch} (hfl : l.stackTraces = false) (fl : Nat) {r : Rs} {ρ : Int32} {s : Mem} (hr : r = (.inr (some (.int ρ)), NF, s)) : ∀ (n : Nat) (v0 : Nat) (v1 : Int32) (v2 : Int32) (hv0 : shape v0 = some (.inl 3)), B_X1_sumPrices_4 fl s n v0 v1 v2 = some ρ → E l X_X1_sumPrices r false NF s 0 0 4 [(0, .ref v0), (1, .int v1), (2, .int v2)] [] := by
  intro n
  induction n with
  | zero =>
    intro v0 v1 v2 hv0 hF
    cases hF
  | succ n ih =>
    intro v0 v1 v2 hv0 hF
    refine E_iload_n (j := 2) (i := 2) (q := 2) rfl rfl dX1_sumPrices_4 ?_
    refine E_aload_n (j := 0) (i := 0) (q := 0) rfl rfl dX1_sumPrices_5 ?_
    refine gf_RX1_47 rfl hv0 (shape_ord hv0).1 dX1_sumPrices_6 ?_
    refine E_icmp_ge (tgt := 42) rfl dX1_sumPrices_9 (fun c1 => ?_) (fun c1 => ?_)
    · have hF := ite_t hF c1
      refine E_iload_n (j := 1) (i := 1) (q := 1) rfl rfl dX1_sumPrices_42 ?_
      exact E_iret (Or.inl rfl) rfl (by cases hF; exact hr) dX1_sumPrices_43
    · have hF := ite_f hF c1
      refine E_aload_n (j := 0) (i := 0) (q := 0) rfl rfl dX1_sumPrices_12 ?_
      obtain ⟨r2, h3, hF⟩ := bd_inv hF
      have h3 := ldA_inv h3
      refine gf_RX1_20 rfl hv0 (shape_ord hv0).1 h3.1 dX1_sumPrices_13 ?_
      refine E_iload_n (j := 2) (i := 2) (q := 2) rfl rfl dX1_sumPrices_16 ?_
      obtain ⟨h4, hF⟩ := gd_inv hF
      obtain ⟨r5, h6, hF⟩ := bd_inv hF
      have h6 := ldO_inv h6
      refine E_aald _ ⟨Nat.le_of_ble_eq_true rfl, Nat.le_of_ble_eq_true rfl⟩ h3.2 (shape_ord h3.2).1 h4 h6.1 dX1_sumPrices_17 ?_
      refine gf_RX1_82 rfl h6.2 (shape_ord h6.2).1 dX1_sumPrices_18 ?_
      refine E_if_eq (tgt := 36) rfl dX1_sumPrices_21 (fun c7 => ?_) (fun c7 => ?_)
      · have hF := ite_t hF c7
        refine E_sub [0, 1, 2] rfl ?_
        exact T_X1_sumPrices_36 hfl fl hr ih _ _ _ hv0 hF
      · have hF := ite_f hF c7
        refine E_iload_n (j := 1) (i := 1) (q := 1) rfl rfl dX1_sumPrices_24 ?_
        refine E_aload_n (j := 0) (i := 0) (q := 0) rfl rfl dX1_sumPrices_25 ?_
        obtain ⟨r8, h9, hF⟩ := bd_inv hF
        have h9 := ldA_inv h9
        refine gf_RX1_20 rfl hv0 (shape_ord hv0).1 h9.1 dX1_sumPrices_26 ?_
        refine E_iload_n (j := 2) (i := 2) (q := 2) rfl rfl dX1_sumPrices_29 ?_
        obtain ⟨h10, hF⟩ := gd_inv hF
        obtain ⟨r11, h12, hF⟩ := bd_inv hF
        have h12 := ldO_inv h12
        refine E_aald _ ⟨Nat.le_of_ble_eq_true rfl, Nat.le_of_ble_eq_true rfl⟩ h9.2 (shape_ord h9.2).1 h10 h12.1 dX1_sumPrices_30 ?_
        refine gf_RX1_112 rfl h12.2 (shape_ord h12.2).1 dX1_sumPrices_31 ?_
        refine E_iadd dX1_sumPrices_34 ?_
        refine E_istore_n (j := 1) (i := 1) (L' := [(1, .int (v1 + (gI s r11 8))), (0, .ref v0), (2, .int v2)]) rfl (Nat.le_of_ble_eq_true rfl) rfl dX1_sumPrices_35 ?_
        refine E_sub [1, 0, 2] rfl ?_
        exact T_X1_sumPrices_36 hfl fl hr ih _ _ _ hv0 hF
set_option maxHeartbeats 4000000 in
set_option maxRecDepth 100000 in
theorem T_X1_sumPrices {l : Launch} (hfl : l.stackTraces = false) (fl : Nat) (v0 : Nat) (s : Mem) (hv0 : shape v0 = some (.inl 3)) (ρ : Int32) (hF : F_X1_sumPrices fl v0 s = some ρ) : MetN l X_X1_sumPrices false NF s [.ref v0] (.inr (some (.int ρ)), NF, s) := by
  unfold F_X1_sumPrices at hF
  obtain ⟨r, hr⟩ : ∃ r : Rs, r = (.inr (some (.int ρ)), NF, s) := ⟨_, rfl⟩
  rw [← hr]
  refine met_of_E rfl rfl (by decide +kernel) hfl rfl (Nat.le_of_ble_eq_true rfl) ?_
  show E l X_X1_sumPrices r false NF s 0 0 0 [(0, .ref v0)] []
  refine E_iconst (v := (0 : Int32)) rfl dX1_sumPrices_0 ?_
  refine E_istore_n (j := 1) (i := 1) (L' := [(1, .int (0 : Int32)), (0, .ref v0)]) rfl (Nat.le_of_ble_eq_true rfl) rfl dX1_sumPrices_1 ?_
  refine E_iconst (v := (0 : Int32)) rfl dX1_sumPrices_2 ?_
  refine E_istore_n (j := 2) (i := 2) (L' := [(2, .int (0 : Int32)), (1, .int (0 : Int32)), (0, .ref v0)]) rfl (Nat.le_of_ble_eq_true rfl) rfl dX1_sumPrices_3 ?_
  refine E_sub [2, 1, 0] rfl ?_
  exact T_X1_sumPrices_4 hfl fl hr  fl _ _ _ hv0 hF
set_option maxHeartbeats 4000000 in
set_option maxRecDepth 100000 in
theorem T_X1_sumFees_4 {l : Launch} (hfl : l.stackTraces = false) (fl : Nat) {r : Rs} {ρ : Int32} {s : Mem} (hr : r = (.inr (some (.int ρ)), NF, s)) : ∀ (n : Nat) (v0 : Nat) (v1 : Int32) (v2 : Int32) (hv0 : shape v0 = some (.inl 3)), B_X1_sumFees_4 fl s n v0 v1 v2 = some ρ → E l X_X1_sumFees r false NF s 0 0 4 [(0, .ref v0), (1, .int v1), (2, .int v2)] [] := by
  intro n
  induction n with
  | zero =>
    intro v0 v1 v2 hv0 hF
    cases hF
  | succ n ih =>
    intro v0 v1 v2 hv0 hF
    refine E_iload_n (j := 2) (i := 2) (q := 2) rfl rfl dX1_sumFees_4 ?_
    refine E_aload_n (j := 0) (i := 0) (q := 0) rfl rfl dX1_sumFees_5 ?_
    refine gf_RX1_47 rfl hv0 (shape_ord hv0).1 dX1_sumFees_6 ?_
    refine E_icmp_ge (tgt := 30) rfl dX1_sumFees_9 (fun c1 => ?_) (fun c1 => ?_)
    · have hF := ite_t hF c1
      refine E_iload_n (j := 1) (i := 1) (q := 1) rfl rfl dX1_sumFees_30 ?_
      exact E_iret (Or.inl rfl) rfl (by cases hF; exact hr) dX1_sumFees_31
    · have hF := ite_f hF c1
      refine E_iload_n (j := 1) (i := 1) (q := 1) rfl rfl dX1_sumFees_12 ?_
      refine E_aload_n (j := 0) (i := 0) (q := 0) rfl rfl dX1_sumFees_13 ?_
      obtain ⟨r2, h3, hF⟩ := bd_inv hF
      have h3 := ldA_inv h3
      refine gf_RX1_20 rfl hv0 (shape_ord hv0).1 h3.1 dX1_sumFees_14 ?_
      refine E_iload_n (j := 2) (i := 2) (q := 2) rfl rfl dX1_sumFees_17 ?_
      obtain ⟨h4, hF⟩ := gd_inv hF
      obtain ⟨r5, h6, hF⟩ := bd_inv hF
      have h6 := ldO_inv h6
      refine E_aald _ ⟨Nat.le_of_ble_eq_true rfl, Nat.le_of_ble_eq_true rfl⟩ h3.2 (shape_ord h3.2).1 h4 h6.1 dX1_sumFees_18 ?_
      refine gf_RX1_179 rfl h6.2 (shape_ord h6.2).1 dX1_sumFees_19 ?_
      refine E_iadd dX1_sumFees_22 ?_
      refine E_istore_n (j := 1) (i := 1) (L' := [(1, .int (v1 + (gI s r5 9))), (0, .ref v0), (2, .int v2)]) rfl (Nat.le_of_ble_eq_true rfl) rfl dX1_sumFees_23 ?_
      refine E_iinc (q := 2) (v := (v2 + (1 : Int32))) (L' := [(2, .int (v2 + (1 : Int32))), (1, .int (v1 + (gI s r5 9))), (0, .ref v0)]) rfl rfl (Nat.le_of_ble_eq_true rfl) rfl dX1_sumFees_24 ?_
      refine E_goto (tgt := 4) rfl dX1_sumFees_27 ?_
      refine E_sub [2, 1, 0] rfl ?_
      exact ih _ _ _ hv0 hF
set_option maxHeartbeats 4000000 in
set_option maxRecDepth 100000 in
theorem T_X1_sumFees {l : Launch} (hfl : l.stackTraces = false) (fl : Nat) (v0 : Nat) (s : Mem) (hv0 : shape v0 = some (.inl 3)) (ρ : Int32) (hF : F_X1_sumFees fl v0 s = some ρ) : MetN l X_X1_sumFees false NF s [.ref v0] (.inr (some (.int ρ)), NF, s) := by
  unfold F_X1_sumFees at hF
  obtain ⟨r, hr⟩ : ∃ r : Rs, r = (.inr (some (.int ρ)), NF, s) := ⟨_, rfl⟩
  rw [← hr]
  refine met_of_E rfl rfl (by decide +kernel) hfl rfl (Nat.le_of_ble_eq_true rfl) ?_
  show E l X_X1_sumFees r false NF s 0 0 0 [(0, .ref v0)] []
  refine E_iconst (v := (0 : Int32)) rfl dX1_sumFees_0 ?_
  refine E_istore_n (j := 1) (i := 1) (L' := [(1, .int (0 : Int32)), (0, .ref v0)]) rfl (Nat.le_of_ble_eq_true rfl) rfl dX1_sumFees_1 ?_
  refine E_iconst (v := (0 : Int32)) rfl dX1_sumFees_2 ?_
  refine E_istore_n (j := 2) (i := 2) (L' := [(2, .int (0 : Int32)), (1, .int (0 : Int32)), (0, .ref v0)]) rfl (Nat.le_of_ble_eq_true rfl) rfl dX1_sumFees_3 ?_
  refine E_sub [2, 1, 0] rfl ?_
  exact T_X1_sumFees_4 hfl fl hr  fl _ _ _ hv0 hF
set_option maxHeartbeats 4000000 in
set_option maxRecDepth 100000 in
theorem T_X1_countAllGaps_4 {l : Launch} (hfl : l.stackTraces = false) (fl : Nat) {r : Rs} {ρ : Int32} {s : Mem} (hr : r = (.inr (some (.int ρ)), NF, s)) : ∀ (n : Nat) (v0 : Nat) (v1 : Int32) (v2 : Int32) (hv0 : shape v0 = some (.inl 3)), B_X1_countAllGaps_4 fl s n v0 v1 v2 = some ρ → E l X_X1_countAllGaps r false NF s 0 0 4 [(0, .ref v0), (1, .int v1), (2, .int v2)] [] := by
  intro n
  induction n with
  | zero =>
    intro v0 v1 v2 hv0 hF
    cases hF
  | succ n ih =>
    intro v0 v1 v2 hv0 hF
    refine E_iload_n (j := 2) (i := 2) (q := 2) rfl rfl dX1_countAllGaps_4 ?_
    refine E_aload_n (j := 0) (i := 0) (q := 0) rfl rfl dX1_countAllGaps_5 ?_
    refine gf_RX1_40 rfl hv0 (shape_ord hv0).1 dX1_countAllGaps_6 ?_
    refine E_icmp_ge (tgt := 31) rfl dX1_countAllGaps_9 (fun c1 => ?_) (fun c1 => ?_)
    · have hF := ite_t hF c1
      refine E_iload_n (j := 1) (i := 1) (q := 1) rfl rfl dX1_countAllGaps_31 ?_
      exact E_iret (Or.inl rfl) rfl (by cases hF; exact hr) dX1_countAllGaps_32
    · have hF := ite_f hF c1
      refine E_iload_n (j := 1) (i := 1) (q := 1) rfl rfl dX1_countAllGaps_12 ?_
      refine E_aload_n (j := 0) (i := 0) (q := 0) rfl rfl dX1_countAllGaps_13 ?_
      refine E_aload_n (j := 0) (i := 0) (q := 0) rfl rfl dX1_countAllGaps_14 ?_
      refine E_iload_n (j := 2) (i := 2) (q := 2) rfl rfl dX1_countAllGaps_15 ?_
      refine E_iconst (v := (-1 : Int32)) rfl dX1_countAllGaps_16 ?_
      obtain ⟨q2, h3, hF⟩ := bd_inv hF
      refine E_callV (na := 2) (As := [.int v2, .int (-1 : Int32)]) (S := [.ref v0, .int v1]) (kc := 0) (ks := 0) (ci := 3) rfl rfl hv0 (shape_ord hv0).1 cwV_RX1_148 ⟨Nat.le_of_ble_eq_true rfl, Nat.le_of_ble_eq_true rfl⟩ (T_X1_busyNights hfl fl _ _ _ _ hv0 _ h3) rfl rfl rfl (Nat.le_of_ble_eq_true rfl) dX1_countAllGaps_17 ?_
      obtain ⟨q4, h5, hF⟩ := bd_inv hF
      refine E_callV (na := 1) (As := [.long q2]) (S := [.int v1]) (kc := 0) (ks := 0) (ci := 3) rfl rfl hv0 (shape_ord hv0).1 cwV_RX1_160 ⟨Nat.le_of_ble_eq_true rfl, Nat.le_of_ble_eq_true rfl⟩ (T_X1_countGaps hfl fl _ _ _ hv0 _ h5) rfl rfl rfl (Nat.le_of_ble_eq_true rfl) dX1_countAllGaps_20 ?_
      refine E_iadd dX1_countAllGaps_23 ?_
      refine E_istore_n (j := 1) (i := 1) (L' := [(1, .int (v1 + q4)), (0, .ref v0), (2, .int v2)]) rfl (Nat.le_of_ble_eq_true rfl) rfl dX1_countAllGaps_24 ?_
      refine E_iinc (q := 2) (v := (v2 + (1 : Int32))) (L' := [(2, .int (v2 + (1 : Int32))), (1, .int (v1 + q4)), (0, .ref v0)]) rfl rfl (Nat.le_of_ble_eq_true rfl) rfl dX1_countAllGaps_25 ?_
      refine E_goto (tgt := 4) rfl dX1_countAllGaps_28 ?_
      refine E_sub [2, 1, 0] rfl ?_
      exact ih _ _ _ hv0 hF
set_option maxHeartbeats 4000000 in
set_option maxRecDepth 100000 in
theorem T_X1_countAllGaps {l : Launch} (hfl : l.stackTraces = false) (fl : Nat) (v0 : Nat) (s : Mem) (hv0 : shape v0 = some (.inl 3)) (ρ : Int32) (hF : F_X1_countAllGaps fl v0 s = some ρ) : MetN l X_X1_countAllGaps false NF s [.ref v0] (.inr (some (.int ρ)), NF, s) := by
  unfold F_X1_countAllGaps at hF
  obtain ⟨r, hr⟩ : ∃ r : Rs, r = (.inr (some (.int ρ)), NF, s) := ⟨_, rfl⟩
  rw [← hr]
  refine met_of_E rfl rfl (by decide +kernel) hfl rfl (Nat.le_of_ble_eq_true rfl) ?_
  show E l X_X1_countAllGaps r false NF s 0 0 0 [(0, .ref v0)] []
  refine E_iconst (v := (0 : Int32)) rfl dX1_countAllGaps_0 ?_
  refine E_istore_n (j := 1) (i := 1) (L' := [(1, .int (0 : Int32)), (0, .ref v0)]) rfl (Nat.le_of_ble_eq_true rfl) rfl dX1_countAllGaps_1 ?_
  refine E_iconst (v := (0 : Int32)) rfl dX1_countAllGaps_2 ?_
  refine E_istore_n (j := 2) (i := 2) (L' := [(2, .int (0 : Int32)), (1, .int (0 : Int32)), (0, .ref v0)]) rfl (Nat.le_of_ble_eq_true rfl) rfl dX1_countAllGaps_3 ?_
  refine E_sub [2, 1, 0] rfl ?_
  exact T_X1_countAllGaps_4 hfl fl hr  fl _ _ _ hv0 hF
set_option maxHeartbeats 4000000 in
set_option maxRecDepth 100000 in
theorem T_X1_countAllBusyNights_4 {l : Launch} (hfl : l.stackTraces = false) (fl : Nat) {r : Rs} {ρ : Int32} {s : Mem} (hr : r = (.inr (some (.int ρ)), NF, s)) : ∀ (n : Nat) (v0 : Nat) (v1 : Int32) (v2 : Int32) (hv0 : shape v0 = some (.inl 3)), B_X1_countAllBusyNights_4 fl s n v0 v1 v2 = some ρ → E l X_X1_countAllBusyNights r false NF s 0 0 4 [(0, .ref v0), (1, .int v1), (2, .int v2)] [] := by
  intro n
  induction n with
  | zero =>
    intro v0 v1 v2 hv0 hF
    cases hF
  | succ n ih =>
    intro v0 v1 v2 hv0 hF
    refine E_iload_n (j := 2) (i := 2) (q := 2) rfl rfl dX1_countAllBusyNights_4 ?_
    refine E_aload_n (j := 0) (i := 0) (q := 0) rfl rfl dX1_countAllBusyNights_5 ?_
    refine gf_RX1_40 rfl hv0 (shape_ord hv0).1 dX1_countAllBusyNights_6 ?_
    refine E_icmp_ge (tgt := 30) rfl dX1_countAllBusyNights_9 (fun c1 => ?_) (fun c1 => ?_)
    · have hF := ite_t hF c1
      refine E_iload_n (j := 1) (i := 1) (q := 1) rfl rfl dX1_countAllBusyNights_30 ?_
      exact E_iret (Or.inl rfl) rfl (by cases hF; exact hr) dX1_countAllBusyNights_31
    · have hF := ite_f hF c1
      refine E_iload_n (j := 1) (i := 1) (q := 1) rfl rfl dX1_countAllBusyNights_12 ?_
      refine E_aload_n (j := 0) (i := 0) (q := 0) rfl rfl dX1_countAllBusyNights_13 ?_
      refine E_iload_n (j := 2) (i := 2) (q := 2) rfl rfl dX1_countAllBusyNights_14 ?_
      refine E_iconst (v := (-1 : Int32)) rfl dX1_countAllBusyNights_15 ?_
      obtain ⟨q2, h3, hF⟩ := bd_inv hF
      refine E_callV (na := 2) (As := [.int v2, .int (-1 : Int32)]) (S := [.int v1]) (kc := 0) (ks := 0) (ci := 3) rfl rfl hv0 (shape_ord hv0).1 cwV_RX1_148 ⟨Nat.le_of_ble_eq_true rfl, Nat.le_of_ble_eq_true rfl⟩ (T_X1_busyNights hfl fl _ _ _ _ hv0 _ h3) rfl rfl rfl (Nat.le_of_ble_eq_true rfl) dX1_countAllBusyNights_16 ?_
      obtain ⟨q4, h5, hF⟩ := bd_inv hF
      refine E_callS (na := 1) (As := [.long q2]) (S := [.int v1]) (kc := 0) (ks := 0) cwS_RX1_138 ⟨Nat.le_of_ble_eq_true rfl, Nat.le_of_ble_eq_true rfl⟩ (T_J13_bitCount_95d88 hfl fl _ _  _ h5) rfl rfl rfl (Nat.le_of_ble_eq_true rfl) dX1_countAllBusyNights_19 ?_
      refine E_iadd dX1_countAllBusyNights_22 ?_
      refine E_istore_n (j := 1) (i := 1) (L' := [(1, .int (v1 + q4)), (0, .ref v0), (2, .int v2)]) rfl (Nat.le_of_ble_eq_true rfl) rfl dX1_countAllBusyNights_23 ?_
      refine E_iinc (q := 2) (v := (v2 + (1 : Int32))) (L' := [(2, .int (v2 + (1 : Int32))), (1, .int (v1 + q4)), (0, .ref v0)]) rfl rfl (Nat.le_of_ble_eq_true rfl) rfl dX1_countAllBusyNights_24 ?_
      refine E_goto (tgt := 4) rfl dX1_countAllBusyNights_27 ?_
      refine E_sub [2, 1, 0] rfl ?_
      exact ih _ _ _ hv0 hF
set_option maxHeartbeats 4000000 in
set_option maxRecDepth 100000 in
theorem T_X1_countAllBusyNights {l : Launch} (hfl : l.stackTraces = false) (fl : Nat) (v0 : Nat) (s : Mem) (hv0 : shape v0 = some (.inl 3)) (ρ : Int32) (hF : F_X1_countAllBusyNights fl v0 s = some ρ) : MetN l X_X1_countAllBusyNights false NF s [.ref v0] (.inr (some (.int ρ)), NF, s) := by
  unfold F_X1_countAllBusyNights at hF
  obtain ⟨r, hr⟩ : ∃ r : Rs, r = (.inr (some (.int ρ)), NF, s) := ⟨_, rfl⟩
  rw [← hr]
  refine met_of_E rfl rfl (by decide +kernel) hfl rfl (Nat.le_of_ble_eq_true rfl) ?_
  show E l X_X1_countAllBusyNights r false NF s 0 0 0 [(0, .ref v0)] []
  refine E_iconst (v := (0 : Int32)) rfl dX1_countAllBusyNights_0 ?_
  refine E_istore_n (j := 1) (i := 1) (L' := [(1, .int (0 : Int32)), (0, .ref v0)]) rfl (Nat.le_of_ble_eq_true rfl) rfl dX1_countAllBusyNights_1 ?_
  refine E_iconst (v := (0 : Int32)) rfl dX1_countAllBusyNights_2 ?_
  refine E_istore_n (j := 2) (i := 2) (L' := [(2, .int (0 : Int32)), (1, .int (0 : Int32)), (0, .ref v0)]) rfl (Nat.le_of_ble_eq_true rfl) rfl dX1_countAllBusyNights_3 ?_
  refine E_sub [2, 1, 0] rfl ?_
  exact T_X1_countAllBusyNights_4 hfl fl hr  fl _ _ _ hv0 hF
