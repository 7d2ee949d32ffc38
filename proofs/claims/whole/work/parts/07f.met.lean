set_option maxHeartbeats 4000000 in
set_option maxRecDepth 100000 in
theorem T_X8_account_16 {l : Launch} (hfl : l.stackTraces = false) (fl : Nat) {r : Rs} {ρ : (Int32 × Mem)} (hr : r = (.inr (some (.int ρ.1)), NF, ρ.2)) (v0 : Nat) (v1 : Int32) (w0 : Nat) (w1 : Int32) (s : Mem) (hv0 : shape v0 = some (.inl 10)) (hw0 : shape w0 = some (.inl 10)) (hF : B_X8_account_16 fl v0 v1 w0 w1 s = some ρ) : E l X_X8_account r false NF s 0 0 16 [(0, .ref v0), (1, .int v1)] [.int w1, .ref w0] := by
  unfold B_X8_account_16 at hF
  refine pf_RX8_42 rfl hw0 (shape_ord hw0).1 dX8_account_16 ?_
  obtain ⟨m1, e2, hF⟩ := nx_inv hF
  refine E_mem e2 ?_
  refine E_aload_n (j := 0) (i := 0) (q := 0) rfl rfl dX8_account_19 ?_
  refine gf_RX8_42 rfl hv0 (shape_ord hv0).1 dX8_account_20 ?_
  refine E_if_eq (tgt := 28) rfl dX8_account_23 (fun c3 => ?_) (fun c3 => ?_)
  · have hF := ite_t hF c3
    refine E_aload_n (j := 0) (i := 0) (q := 0) rfl rfl dX8_account_28 ?_
    refine E_iconst (v := (-1 : Int32)) rfl dX8_account_29 ?_
    obtain ⟨q4, h5, hF⟩ := bd_inv hF
    refine E_callV (na := 1) (As := [.int (-1 : Int32)]) (S := []) (kc := 0) (ks := 0) (ci := 10) rfl rfl hv0 (shape_ord hv0).1 cwV_RX8_67 ⟨Nat.le_of_ble_eq_true rfl, Nat.le_of_ble_eq_true rfl⟩ (T_X8_loads hfl fl _ _ _ hv0 _ h5) rfl rfl rfl (Nat.le_of_ble_eq_true rfl) dX8_account_30 ?_
    refine E_iload_n (j := 1) (i := 1) (q := 1) rfl rfl dX8_account_33 ?_
    by_cases c6 : v1 = 0
    · have hF := ite_t hF c6
      refine E_tabIn (off := 42) (tgt := 76) (by rw [c6]; decide) (by rw [c6]; decide) (by rw [c6]; rfl) rfl dX8_account_34 ?_
      refine E_aload_n (j := 0) (i := 0) (q := 0) rfl rfl dX8_account_76 ?_
      obtain ⟨r7, h8, hF⟩ := bd_inv hF
      have h8 := ldA_inv h8
      refine gf_RX8_9 rfl hv0 (shape_ord hv0).1 h8.1 dX8_account_77 ?_
      refine E_iconst (v := (0 : Int32)) rfl dX8_account_80 ?_
      obtain ⟨h9, hF⟩ := gd_inv hF
      refine E_iald _ h8.2 (shape_ord h8.2).1 h9 dX8_account_81 ?_
      exact E_iret (Or.inl rfl) rfl (by cases hF; exact hr) dX8_account_82
    · have hF := ite_f hF c6
      by_cases c10 : v1 = 1
      · have hF := ite_t hF c10
        refine E_tabIn (off := 49) (tgt := 83) (by rw [c10]; decide) (by rw [c10]; decide) (by rw [c10]; rfl) rfl dX8_account_34 ?_
        refine E_aload_n (j := 0) (i := 0) (q := 0) rfl rfl dX8_account_83 ?_
        refine E_iconst (v := (-1 : Int32)) rfl dX8_account_84 ?_
        refine E_iconst (v := (1 : Int32)) rfl dX8_account_85 ?_
        obtain ⟨q11, h12, hF⟩ := bd_inv hF
        refine E_callV (na := 2) (As := [.int (-1 : Int32), .int (1 : Int32)]) (S := []) (kc := 0) (ks := 0) (ci := 10) rfl rfl hv0 (shape_ord hv0).1 cwV_RX8_210 ⟨Nat.le_of_ble_eq_true rfl, Nat.le_of_ble_eq_true rfl⟩ (T_X8_sum hfl fl _ _ _ _ hv0 _ h12) rfl rfl rfl (Nat.le_of_ble_eq_true rfl) dX8_account_86 ?_
        exact E_iret (Or.inl rfl) rfl (by cases hF; exact hr) dX8_account_89
      · have hF := ite_f hF c10
        by_cases c13 : v1 = 2
        · have hF := ite_t hF c13
          refine E_tabIn (off := 56) (tgt := 90) (by rw [c13]; decide) (by rw [c13]; decide) (by rw [c13]; rfl) rfl dX8_account_34 ?_
          refine E_aload_n (j := 0) (i := 0) (q := 0) rfl rfl dX8_account_90 ?_
          refine E_iconst (v := (-1 : Int32)) rfl dX8_account_91 ?_
          refine E_iconst (v := (0 : Int32)) rfl dX8_account_92 ?_
          obtain ⟨q14, h15, hF⟩ := bd_inv hF
          refine E_callV (na := 2) (As := [.int (-1 : Int32), .int (0 : Int32)]) (S := []) (kc := 0) (ks := 0) (ci := 10) rfl rfl hv0 (shape_ord hv0).1 cwV_RX8_210 ⟨Nat.le_of_ble_eq_true rfl, Nat.le_of_ble_eq_true rfl⟩ (T_X8_sum hfl fl _ _ _ _ hv0 _ h15) rfl rfl rfl (Nat.le_of_ble_eq_true rfl) dX8_account_93 ?_
          exact E_iret (Or.inl rfl) rfl (by cases hF; exact hr) dX8_account_96
        · have hF := ite_f hF c13
          by_cases c16 : v1 = 3
          · have hF := ite_t hF c16
            refine E_tabIn (off := 63) (tgt := 97) (by rw [c16]; decide) (by rw [c16]; decide) (by rw [c16]; rfl) rfl dX8_account_34 ?_
            refine E_aload_n (j := 0) (i := 0) (q := 0) rfl rfl dX8_account_97 ?_
            refine E_bipush (v := (7 : Int32)) rfl dX8_account_98 ?_
            refine E_iconst (v := (1 : Int32)) rfl dX8_account_100 ?_
            obtain ⟨q17, h18, hF⟩ := bd_inv hF
            refine E_callV (na := 2) (As := [.int (7 : Int32), .int (1 : Int32)]) (S := []) (kc := 0) (ks := 0) (ci := 10) rfl rfl hv0 (shape_ord hv0).1 cwV_RX8_210 ⟨Nat.le_of_ble_eq_true rfl, Nat.le_of_ble_eq_true rfl⟩ (T_X8_sum hfl fl _ _ _ _ hv0 _ h18) rfl rfl rfl (Nat.le_of_ble_eq_true rfl) dX8_account_101 ?_
            exact E_iret (Or.inl rfl) rfl (by cases hF; exact hr) dX8_account_104
          · have hF := ite_f hF c16
            by_cases c19 : v1 = 4
            · have hF := ite_t hF c19
              refine E_tabIn (off := 71) (tgt := 105) (by rw [c19]; decide) (by rw [c19]; decide) (by rw [c19]; rfl) rfl dX8_account_34 ?_
              refine E_aload_n (j := 0) (i := 0) (q := 0) rfl rfl dX8_account_105 ?_
              refine E_bipush (v := (9 : Int32)) rfl dX8_account_106 ?_
              refine E_iconst (v := (0 : Int32)) rfl dX8_account_108 ?_
              obtain ⟨q20, h21, hF⟩ := bd_inv hF
              refine E_callV (na := 2) (As := [.int (9 : Int32), .int (0 : Int32)]) (S := []) (kc := 0) (ks := 0) (ci := 10) rfl rfl hv0 (shape_ord hv0).1 cwV_RX8_210 ⟨Nat.le_of_ble_eq_true rfl, Nat.le_of_ble_eq_true rfl⟩ (T_X8_sum hfl fl _ _ _ _ hv0 _ h21) rfl rfl rfl (Nat.le_of_ble_eq_true rfl) dX8_account_109 ?_
              exact E_iret (Or.inl rfl) rfl (by cases hF; exact hr) dX8_account_112
            · have hF := ite_f hF c19
              by_cases c22 : v1 = 5
              · have hF := ite_t hF c22
                refine E_tabIn (off := 79) (tgt := 113) (by rw [c22]; decide) (by rw [c22]; decide) (by rw [c22]; rfl) rfl dX8_account_34 ?_
                refine E_aload_n (j := 0) (i := 0) (q := 0) rfl rfl dX8_account_113 ?_
                obtain ⟨q23, h24, hF⟩ := bd_inv hF
                refine E_callV (na := 0) (As := []) (S := []) (kc := 0) (ks := 0) (ci := 10) rfl rfl hv0 (shape_ord hv0).1 cwV_RX8_123 ⟨Nat.le_of_ble_eq_true rfl, Nat.le_of_ble_eq_true rfl⟩ (T_X8_gapsOfAll hfl fl _ _ hv0 _ h24) rfl rfl rfl (Nat.le_of_ble_eq_true rfl) dX8_account_114 ?_
                exact E_iret (Or.inl rfl) rfl (by cases hF; exact hr) dX8_account_117
              · have hF := ite_f hF c22
                by_cases c25 : v1 = 6
                · have hF := ite_t hF c25
                  refine E_tabIn (off := 84) (tgt := 118) (by rw [c25]; decide) (by rw [c25]; decide) (by rw [c25]; rfl) rfl dX8_account_34 ?_
                  refine E_aload_n (j := 0) (i := 0) (q := 0) rfl rfl dX8_account_118 ?_
                  obtain ⟨q26, h27, hF⟩ := bd_inv hF
                  refine E_callV (na := 0) (As := []) (S := []) (kc := 0) (ks := 0) (ci := 10) rfl rfl hv0 (shape_ord hv0).1 cwV_RX8_213 ⟨Nat.le_of_ble_eq_true rfl, Nat.le_of_ble_eq_true rfl⟩ (T_X8_busyNights hfl fl _ _ hv0 _ h27) rfl rfl rfl (Nat.le_of_ble_eq_true rfl) dX8_account_119 ?_
                  exact E_iret (Or.inl rfl) rfl (by cases hF; exact hr) dX8_account_122
                · have hF := ite_f hF c25
                  refine E_tabOut (tgt := 123) (tab_out fun z9 z1 z2 => by rcases (show z9 = 0 ∨ z9 = 1 ∨ z9 = 2 ∨ z9 = 3 ∨ z9 = 4 ∨ z9 = 5 ∨ z9 = 6 by omega) with rfl | rfl | rfl | rfl | rfl | rfl | rfl; exact c6; exact c10; exact c13; exact c16; exact c19; exact c22; exact c25) rfl dX8_account_34 ?_
                  refine E_aload_n (j := 0) (i := 0) (q := 0) rfl rfl dX8_account_123 ?_
                  obtain ⟨r28, h29, hF⟩ := bd_inv hF
                  have h29 := ldA_inv h29
                  refine gf_RX8_9 rfl hv0 (shape_ord hv0).1 h29.1 dX8_account_124 ?_
                  refine E_iconst (v := (2 : Int32)) rfl dX8_account_127 ?_
                  obtain ⟨h30, hF⟩ := gd_inv hF
                  refine E_iald _ h29.2 (shape_ord h29.2).1 h30 dX8_account_128 ?_
                  exact E_iret (Or.inl rfl) rfl (by cases hF; exact hr) dX8_account_129
  · have hF := ite_f hF c3
    refine E_iconst (v := (0 : Int32)) rfl dX8_account_26 ?_
    exact E_iret (Or.inl rfl) rfl (by cases hF; exact hr) dX8_account_27
set_option maxHeartbeats 4000000 in
set_option maxRecDepth 100000 in
theorem T_X8_account {l : Launch} (hfl : l.stackTraces = false) (fl : Nat) (v0 : Nat) (v1 : Int32) (s : Mem) (hv0 : shape v0 = some (.inl 10)) (ρ : (Int32 × Mem)) (hF : F_X8_account fl v0 v1 s = some ρ) : MetN l X_X8_account false NF s [.ref v0, .int v1] (.inr (some (.int ρ.1)), NF, ρ.2) := by
  unfold F_X8_account at hF
  obtain ⟨r, hr⟩ : ∃ r : Rs, r = (.inr (some (.int ρ.1)), NF, ρ.2) := ⟨_, rfl⟩
  rw [← hr]
  refine met_of_E rfl rfl (by decide +kernel) hfl rfl (Nat.le_of_ble_eq_true rfl) ?_
  show E l X_X8_account r false NF s 0 0 0 [(0, .ref v0), (1, .int v1)] []
  refine E_aload_n (j := 0) (i := 0) (q := 0) rfl rfl dX8_account_0 ?_
  refine E_iload_n (j := 1) (i := 1) (q := 1) rfl rfl dX8_account_1 ?_
  refine E_iconst (v := (0 : Int32)) rfl dX8_account_2 ?_
  refine E_bipush (v := (7 : Int32)) rfl dX8_account_3 ?_
  obtain ⟨q31, h32, hF⟩ := bd_inv hF
  refine E_callS (na := 3) (As := [.int v1, .int (0 : Int32), .int (7 : Int32)]) (S := [.ref v0]) (kc := 0) (ks := 0) cwS_RX8_52 ⟨Nat.le_of_ble_eq_true rfl, Nat.le_of_ble_eq_true rfl⟩ (T_X8_in hfl fl _ _ _ _  _ h32) rfl rfl rfl (Nat.le_of_ble_eq_true rfl) dX8_account_5 ?_
  refine E_if_eq (tgt := 15) rfl dX8_account_8 (fun c33 => ?_) (fun c33 => ?_)
  · have hF := ite_t hF c33
    refine E_iconst (v := (1 : Int32)) rfl dX8_account_15 ?_
    refine E_sub [0, 1] rfl ?_
    exact T_X8_account_16 hfl fl hr  _ _ _ _ _ hv0 hv0 hF
  · have hF := ite_f hF c33
    refine E_iconst (v := (0 : Int32)) rfl dX8_account_11 ?_
    refine E_goto (tgt := 16) rfl dX8_account_12 ?_
    refine E_sub [0, 1] rfl ?_
    exact T_X8_account_16 hfl fl hr  _ _ _ _ _ hv0 hv0 hF
set_option maxHeartbeats 4000000 in
set_option maxRecDepth 100000 in
theorem T_X8_share_15 {l : Launch} (hfl : l.stackTraces = false) (fl : Nat) {r : Rs} {ρ : (UInt64 × Mem)} (hr : r = (.inr (some (.double ρ.1)), NF, ρ.2)) (v0 : Nat) (w0 : Nat) (w1 : Int32) (s : Mem) (hv0 : shape v0 = some (.inl 10)) (hw0 : shape w0 = some (.inl 10)) (hF : B_X8_share_15 fl v0 w0 w1 s = some ρ) : E l X_X8_share r false NF s 0 0 15 [(0, .ref v0)] [.int w1, .ref w0] := by
  unfold B_X8_share_15 at hF
  refine pf_RX8_42 rfl hw0 (shape_ord hw0).1 dX8_share_15 ?_
  obtain ⟨m1, e2, hF⟩ := nx_inv hF
  refine E_mem e2 ?_
  refine E_aload_n (j := 0) (i := 0) (q := 0) rfl rfl dX8_share_18 ?_
  refine gf_RX8_42 rfl hv0 (shape_ord hv0).1 dX8_share_19 ?_
  refine E_if_ne (tgt := 44) rfl dX8_share_22 (fun c3 => ?_) (fun c3 => ?_)
  · have hF := ite_f hF c3
    refine E_dconst0 dX8_share_44 ?_
    exact E_dret (Or.inl rfl) rfl (by cases hF; exact hr) dX8_share_45
  · have hF := ite_t hF c3
    refine E_aload_n (j := 0) (i := 0) (q := 0) rfl rfl dX8_share_25 ?_
    obtain ⟨q4, h5, hF⟩ := bd_inv hF
    refine E_callV (na := 0) (As := []) (S := []) (kc := 0) (ks := 0) (ci := 10) rfl rfl hv0 (shape_ord hv0).1 cwV_RX8_213 ⟨Nat.le_of_ble_eq_true rfl, Nat.le_of_ble_eq_true rfl⟩ (T_X8_busyNights hfl fl _ _ hv0 _ h5) rfl rfl rfl (Nat.le_of_ble_eq_true rfl) dX8_share_26 ?_
    refine E_i2d dX8_share_29 ?_
    refine E_bipush (v := (60 : Int32)) rfl dX8_share_30 ?_
    refine E_aload_n (j := 0) (i := 0) (q := 0) rfl rfl dX8_share_32 ?_
    obtain ⟨r6, h7, hF⟩ := bd_inv hF
    have h7 := ldA_inv h7
    refine gf_RX8_9 rfl hv0 (shape_ord hv0).1 h7.1 dX8_share_33 ?_
    refine E_iconst (v := (0 : Int32)) rfl dX8_share_36 ?_
    obtain ⟨h8, hF⟩ := gd_inv hF
    refine E_iald _ h7.2 (shape_ord h7.2).1 h8 dX8_share_37 ?_
    refine E_imul dX8_share_38 ?_
    refine E_i2d dX8_share_39 ?_
    obtain ⟨h9, hF⟩ := gd_inv hF
    refine E_ddiv h9 dX8_share_40 ?_
    refine E_goto (tgt := 45) rfl dX8_share_41 ?_
    exact E_dret (Or.inl rfl) rfl (by cases hF; exact hr) dX8_share_45
set_option maxHeartbeats 4000000 in
set_option maxRecDepth 100000 in
theorem T_X8_share {l : Launch} (hfl : l.stackTraces = false) (fl : Nat) (v0 : Nat) (s : Mem) (hv0 : shape v0 = some (.inl 10)) (ρ : (UInt64 × Mem)) (hF : F_X8_share fl v0 s = some ρ) : MetN l X_X8_share false NF s [.ref v0] (.inr (some (.double ρ.1)), NF, ρ.2) := by
  unfold F_X8_share at hF
  obtain ⟨r, hr⟩ : ∃ r : Rs, r = (.inr (some (.double ρ.1)), NF, ρ.2) := ⟨_, rfl⟩
  rw [← hr]
  refine met_of_E rfl rfl (by decide +kernel) hfl rfl (Nat.le_of_ble_eq_true rfl) ?_
  show E l X_X8_share r false NF s 0 0 0 [(0, .ref v0)] []
  refine E_aload_n (j := 0) (i := 0) (q := 0) rfl rfl dX8_share_0 ?_
  refine E_aload_n (j := 0) (i := 0) (q := 0) rfl rfl dX8_share_1 ?_
  obtain ⟨r10, h11, hF⟩ := bd_inv hF
  have h11 := ldA_inv h11
  refine gf_RX8_9 rfl hv0 (shape_ord hv0).1 h11.1 dX8_share_2 ?_
  refine E_iconst (v := (0 : Int32)) rfl dX8_share_5 ?_
  obtain ⟨h12, hF⟩ := gd_inv hF
  refine E_iald _ h11.2 (shape_ord h11.2).1 h12 dX8_share_6 ?_
  refine E_if_ne (tgt := 14) rfl dX8_share_7 (fun c13 => ?_) (fun c13 => ?_)
  · have hF := ite_f hF c13
    refine E_iconst (v := (0 : Int32)) rfl dX8_share_14 ?_
    refine E_sub [0] rfl ?_
    exact T_X8_share_15 hfl fl hr  _ _ _ _ hv0 hv0 hF
  · have hF := ite_t hF c13
    refine E_iconst (v := (1 : Int32)) rfl dX8_share_10 ?_
    refine E_goto (tgt := 15) rfl dX8_share_11 ?_
    refine E_sub [0] rfl ?_
    exact T_X8_share_15 hfl fl hr  _ _ _ _ hv0 hv0 hF
set_option maxHeartbeats 4000000 in
set_option maxRecDepth 100000 in
theorem T_X8_undo_13 {l : Launch} (hfl : l.stackTraces = false) (fl : Nat) {r : Rs} {ρ : (Int32 × Mem)} (hr : r = (.inr (some (.int ρ.1)), NF, ρ.2)) (v0 : Nat) (w0 : Nat) (w1 : Int32) (s : Mem) (hv0 : shape v0 = some (.inl 10)) (hw0 : shape w0 = some (.inl 10)) (hF : B_X8_undo_13 fl v0 w0 w1 s = some ρ) : E l X_X8_undo r false NF s 0 0 13 [(0, .ref v0)] [.int w1, .ref w0] := by
  unfold B_X8_undo_13 at hF
  refine pf_RX8_42 rfl hw0 (shape_ord hw0).1 dX8_undo_13 ?_
  obtain ⟨m1, e2, hF⟩ := nx_inv hF
  refine E_mem e2 ?_
  refine E_aload_n (j := 0) (i := 0) (q := 0) rfl rfl dX8_undo_16 ?_
  refine gf_RX8_42 rfl hv0 (shape_ord hv0).1 dX8_undo_17 ?_
  refine E_if_eq (tgt := 25) rfl dX8_undo_20 (fun c3 => ?_) (fun c3 => ?_)
  · have hF := ite_t hF c3
    refine E_aload_n (j := 0) (i := 0) (q := 0) rfl rfl dX8_undo_25 ?_
    refine E_aload_n (j := 0) (i := 0) (q := 0) rfl rfl dX8_undo_26 ?_
    refine gf_RX8_45 rfl hv0 (shape_ord hv0).1 dX8_undo_27 ?_
    refine E_iconst (v := (0 : Int32)) rfl dX8_undo_30 ?_
    obtain ⟨q4, h5, hF⟩ := bd_inv hF
    refine E_callV (na := 2) (As := [.int (gI m1 v0 2), .int (0 : Int32)]) (S := []) (kc := 0) (ks := 0) (ci := 10) rfl rfl hv0 (shape_ord hv0).1 cwV_RX8_48 ⟨Nat.le_of_ble_eq_true rfl, Nat.le_of_ble_eq_true rfl⟩ (T_X8_copies hfl fl _ _ _ _ hv0 _ h5) rfl rfl rfl (Nat.le_of_ble_eq_true rfl) dX8_undo_31 ?_
    refine E_aload_n (j := 0) (i := 0) (q := 0) rfl rfl dX8_undo_34 ?_
    refine E_dup rfl dX8_undo_35 ?_
    refine gf_RX8_45 rfl hv0 (shape_ord hv0).1 dX8_undo_36 ?_
    refine E_iconst (v := (1 : Int32)) rfl dX8_undo_39 ?_
    refine E_isub dX8_undo_40 ?_
    refine pf_RX8_45 rfl hv0 (shape_ord hv0).1 dX8_undo_41 ?_
    obtain ⟨m6, e7, hF⟩ := nx_inv hF
    refine E_mem e7 ?_
    refine E_aload_n (j := 0) (i := 0) (q := 0) rfl rfl dX8_undo_44 ?_
    refine gf_RX8_45 rfl hv0 (shape_ord hv0).1 dX8_undo_45 ?_
    exact E_iret (Or.inl rfl) rfl (by cases hF; exact hr) dX8_undo_48
  · have hF := ite_f hF c3
    refine E_iconst (v := (0 : Int32)) rfl dX8_undo_23 ?_
    exact E_iret (Or.inl rfl) rfl (by cases hF; exact hr) dX8_undo_24
set_option maxHeartbeats 4000000 in
set_option maxRecDepth 100000 in
theorem T_X8_undo {l : Launch} (hfl : l.stackTraces = false) (fl : Nat) (v0 : Nat) (s : Mem) (hv0 : shape v0 = some (.inl 10)) (ρ : (Int32 × Mem)) (hF : F_X8_undo fl v0 s = some ρ) : MetN l X_X8_undo false NF s [.ref v0] (.inr (some (.int ρ.1)), NF, ρ.2) := by
  unfold F_X8_undo at hF
  obtain ⟨r, hr⟩ : ∃ r : Rs, r = (.inr (some (.int ρ.1)), NF, ρ.2) := ⟨_, rfl⟩
  rw [← hr]
  refine met_of_E rfl rfl (by decide +kernel) hfl rfl (Nat.le_of_ble_eq_true rfl) ?_
  show E l X_X8_undo r false NF s 0 0 0 [(0, .ref v0)] []
  refine E_aload_n (j := 0) (i := 0) (q := 0) rfl rfl dX8_undo_0 ?_
  refine E_aload_n (j := 0) (i := 0) (q := 0) rfl rfl dX8_undo_1 ?_
  refine gf_RX8_45 rfl hv0 (shape_ord hv0).1 dX8_undo_2 ?_
  refine E_if_ne (tgt := 12) rfl dX8_undo_5 (fun c8 => ?_) (fun c8 => ?_)
  · have hF := ite_f hF c8
    refine E_iconst (v := (0 : Int32)) rfl dX8_undo_12 ?_
    refine E_sub [0] rfl ?_
    exact T_X8_undo_13 hfl fl hr  _ _ _ _ hv0 hv0 hF
  · have hF := ite_t hF c8
    refine E_iconst (v := (1 : Int32)) rfl dX8_undo_8 ?_
    refine E_goto (tgt := 13) rfl dX8_undo_9 ?_
    refine E_sub [0] rfl ?_
    exact T_X8_undo_13 hfl fl hr  _ _ _ _ hv0 hv0 hF
set_option maxHeartbeats 4000000 in
set_option maxRecDepth 100000 in
theorem T_X8_save {l : Launch} (hfl : l.stackTraces = false) (fl : Nat) (v0 : Nat) (s : Mem) (hv0 : shape v0 = some (.inl 10)) (ρ : Mem) (hF : F_X8_save fl v0 s = some ρ) : MetN l X_X8_save false NF s [.ref v0] (.inr none, NF, ρ) := by
  unfold F_X8_save at hF
  obtain ⟨r, hr⟩ : ∃ r : Rs, r = (.inr none, NF, ρ) := ⟨_, rfl⟩
  rw [← hr]
  refine met_of_E rfl rfl (by decide +kernel) hfl rfl (Nat.le_of_ble_eq_true rfl) ?_
  show E l X_X8_save r false NF s 0 0 0 [(0, .ref v0)] []
  refine E_aload_n (j := 0) (i := 0) (q := 0) rfl rfl dX8_save_0 ?_
  refine E_iconst (v := (0 : Int32)) rfl dX8_save_1 ?_
  refine pf_RX8_42 rfl hv0 (shape_ord hv0).1 dX8_save_2 ?_
  obtain ⟨m1, e2, hF⟩ := nx_inv hF
  refine E_mem e2 ?_
  refine E_aload_n (j := 0) (i := 0) (q := 0) rfl rfl dX8_save_5 ?_
  refine E_iconst (v := (1 : Int32)) rfl dX8_save_6 ?_
  refine pf_RX8_216 rfl (by decide) hv0 (shape_ord hv0).1 dX8_save_7 ?_
  obtain ⟨m3, e4, hF⟩ := nx_inv hF
  refine E_mem e4 ?_
  refine E_aload_n (j := 0) (i := 0) (q := 0) rfl rfl dX8_save_10 ?_
  refine E_iconst (v := (0 : Int32)) rfl dX8_save_11 ?_
  refine E_bipush (v := (9 : Int32)) rfl dX8_save_12 ?_
  obtain ⟨q5, h6, hF⟩ := bd_inv hF
  refine E_callV (na := 2) (As := [.int (0 : Int32), .int (9 : Int32)]) (S := []) (kc := 0) (ks := 0) (ci := 10) rfl rfl hv0 (shape_ord hv0).1 cwV_RX8_48 ⟨Nat.le_of_ble_eq_true rfl, Nat.le_of_ble_eq_true rfl⟩ (T_X8_copies hfl fl _ _ _ _ hv0 _ h6) rfl rfl rfl (Nat.le_of_ble_eq_true rfl) dX8_save_14 ?_
  exact E_vret (Or.inl rfl) rfl (by cases hF; exact hr) dX8_save_17
set_option maxHeartbeats 4000000 in
set_option maxRecDepth 100000 in
theorem T_X8_restore_13 {l : Launch} (hfl : l.stackTraces = false) (fl : Nat) {r : Rs} {ρ : Mem} (hr : r = (.inr none, NF, ρ)) (v0 : Nat) (w0 : Nat) (w1 : Int32) (s : Mem) (hv0 : shape v0 = some (.inl 10)) (hw0 : shape w0 = some (.inl 10)) (hF : B_X8_restore_13 fl v0 w0 w1 s = some ρ) : E l X_X8_restore r false NF s 0 0 13 [(0, .ref v0)] [.int w1, .ref w0] := by
  unfold B_X8_restore_13 at hF
  refine pf_RX8_42 rfl hw0 (shape_ord hw0).1 dX8_restore_13 ?_
  obtain ⟨m1, e2, hF⟩ := nx_inv hF
  refine E_mem e2 ?_
  refine E_aload_n (j := 0) (i := 0) (q := 0) rfl rfl dX8_restore_16 ?_
  refine gf_RX8_42 rfl hv0 (shape_ord hv0).1 dX8_restore_17 ?_
  refine E_if_eq (tgt := 24) rfl dX8_restore_20 (fun c3 => ?_) (fun c3 => ?_)
  · have hF := ite_t hF c3
    refine E_aload_n (j := 0) (i := 0) (q := 0) rfl rfl dX8_restore_24 ?_
    refine E_bipush (v := (9 : Int32)) rfl dX8_restore_25 ?_
    refine E_iconst (v := (0 : Int32)) rfl dX8_restore_27 ?_
    obtain ⟨q4, h5, hF⟩ := bd_inv hF
    refine E_callV (na := 2) (As := [.int (9 : Int32), .int (0 : Int32)]) (S := []) (kc := 0) (ks := 0) (ci := 10) rfl rfl hv0 (shape_ord hv0).1 cwV_RX8_48 ⟨Nat.le_of_ble_eq_true rfl, Nat.le_of_ble_eq_true rfl⟩ (T_X8_copies hfl fl _ _ _ _ hv0 _ h5) rfl rfl rfl (Nat.le_of_ble_eq_true rfl) dX8_restore_28 ?_
    refine E_aload_n (j := 0) (i := 0) (q := 0) rfl rfl dX8_restore_31 ?_
    refine E_iconst (v := (0 : Int32)) rfl dX8_restore_32 ?_
    refine pf_RX8_45 rfl hv0 (shape_ord hv0).1 dX8_restore_33 ?_
    obtain ⟨m6, e7, hF⟩ := nx_inv hF
    refine E_mem e7 ?_
    exact E_vret (Or.inl rfl) rfl (by cases hF; exact hr) dX8_restore_36
  · have hF := ite_f hF c3
    exact E_vret (Or.inl rfl) rfl (by cases hF; exact hr) dX8_restore_23
set_option maxHeartbeats 4000000 in
set_option maxRecDepth 100000 in
theorem T_X8_restore {l : Launch} (hfl : l.stackTraces = false) (fl : Nat) (v0 : Nat) (s : Mem) (hv0 : shape v0 = some (.inl 10)) (ρ : Mem) (hF : F_X8_restore fl v0 s = some ρ) : MetN l X_X8_restore false NF s [.ref v0] (.inr none, NF, ρ) := by
  unfold F_X8_restore at hF
  obtain ⟨r, hr⟩ : ∃ r : Rs, r = (.inr none, NF, ρ) := ⟨_, rfl⟩
  rw [← hr]
  refine met_of_E rfl rfl (by decide +kernel) hfl rfl (Nat.le_of_ble_eq_true rfl) ?_
  show E l X_X8_restore r false NF s 0 0 0 [(0, .ref v0)] []
  refine E_aload_n (j := 0) (i := 0) (q := 0) rfl rfl dX8_restore_0 ?_
  refine E_aload_n (j := 0) (i := 0) (q := 0) rfl rfl dX8_restore_1 ?_
  refine gf_RX8_216 rfl hv0 (shape_ord hv0).1 dX8_restore_2 ?_
  refine E_if_eq (tgt := 12) rfl dX8_restore_5 (fun c8 => ?_) (fun c8 => ?_)
  · have hF := ite_t hF c8
    refine E_iconst (v := (1 : Int32)) rfl dX8_restore_12 ?_
    refine E_sub [0] rfl ?_
    exact T_X8_restore_13 hfl fl hr  _ _ _ _ hv0 hv0 hF
  · have hF := ite_f hF c8
    refine E_iconst (v := (0 : Int32)) rfl dX8_restore_8 ?_
    refine E_goto (tgt := 13) rfl dX8_restore_9 ?_
    refine E_sub [0] rfl ?_
    exact T_X8_restore_13 hfl fl hr  _ _ _ _ hv0 hv0 hF
set_option maxHeartbeats 4000000 in
set_option maxRecDepth 100000 in
theorem T_L_addPitch {l : Launch} (hfl : l.stackTraces = false) (fl : Nat) (v0 : Nat) (v1 : Int32) (v2 : Int32) (v3 : Int32) (v4 : Int32) (v5 : Nat) (s : Mem) (hv0 : shape v0 = some (.inl 9)) (ρ : (Int32 × Mem)) (hF : F_L_addPitch fl v0 v1 v2 v3 v4 v5 s = some ρ) : MetX l X_L_addPitch NF s [.ref v0, .int v1, .int v2, .int v3, .int v4, .ref v5] (.inr (some (.int ρ.1)), NF, ρ.2) := by
  unfold F_L_addPitch at hF
  obtain ⟨r, hr⟩ : ∃ r : Rs, r = (.inr (some (.int ρ.1)), NF, ρ.2) := ⟨_, rfl⟩
  rw [← hr]
  refine metH_of_E rfl (by decide) (by decide +kernel) hfl rfl (Nat.le_of_ble_eq_true rfl) ?_
  show E l X_L_addPitch r false NF s 1 6 0 [(0, .ref v0), (1, .int v1), (2, .int v2), (3, .int v3), (4, .int v4), (5, .ref v5)] []
  refine E_aload (q := 5) rfl dL_addPitch_0 ?_
  refine E_iconst (v := (0 : Int32)) rfl dL_addPitch_2 ?_
  refine E_aload_n (j := 0) (i := 0) (q := 0) rfl rfl dL_addPitch_3 ?_
  refine E_iload_n (j := 1) (i := 1) (q := 1) rfl rfl dL_addPitch_4 ?_
  refine E_iload_n (j := 2) (i := 2) (q := 2) rfl rfl dL_addPitch_5 ?_
  refine E_iload_n (j := 3) (i := 3) (q := 3) rfl rfl dL_addPitch_6 ?_
  refine E_iload (q := 4) rfl dL_addPitch_7 ?_
  obtain ⟨q1, h2, hF⟩ := bd_inv hF
  have hM6 := T_X7_addPitch hfl fl _ _ _ _ _ _ hv0 _ h2
  rcases xc_inv hF with ⟨e7, h5, hF⟩ | ⟨x3, h5, hF⟩
  · rw [h5] at hM6
    by_cases c13 : e7 = 1
    · have hF := ite_t hF c13
      subst c13
      refine E_callVX_c (i9 := 6) (na := 4) (As := [.int v1, .int v2, .int v3, .int v4]) (S := [.int (0 : Int32), .ref v5]) (kc := 0) (ks := 0) (ci := 9) rfl rfl hv0 (shape_ord hv0).1 cwV_RL_7 [] (0, 14, 17, 13) [(0, 14, 21, 15)] rfl ⟨Nat.le_of_ble_eq_true rfl, Nat.le_of_ble_eq_true rfl⟩ (by decide) wT503 wN4 (by intro z9 hz9; cases hz9) (Nat.le_of_ble_eq_true rfl) ⟨Nat.le_of_ble_eq_true rfl, Nat.le_of_ble_eq_true rfl⟩ hM6 rfl rfl (Nat.le_of_ble_eq_true rfl) dL_addPitch_9 dL_addPitch_17 ?_
      refine E_iconst (v := (1 : Int32)) rfl dL_addPitch_19 ?_
      exact E_iret (Or.inr ⟨rfl, rfl⟩) rfl (by cases hF; exact hr) dL_addPitch_20
    · have hF := ite_f hF c13
      by_cases c14 : e7 = 2
      · have hF := ite_t hF c14
        subst c14
        refine E_callVX_c (i9 := 6) (na := 4) (As := [.int v1, .int v2, .int v3, .int v4]) (S := [.int (0 : Int32), .ref v5]) (kc := 0) (ks := 0) (ci := 9) rfl rfl hv0 (shape_ord hv0).1 cwV_RL_7 [(0, 14, 17, 13)] (0, 14, 21, 15) [] rfl ⟨Nat.le_of_ble_eq_true rfl, Nat.le_of_ble_eq_true rfl⟩ (by decide) wT504 wN5 (by intro z9 hz9; simp only [List.mem_cons, List.not_mem_nil, or_false] at hz9; rcases hz9 with rfl <;> first | exact ⟨by decide, _, wT503, by decide +kernel⟩) (Nat.le_of_ble_eq_true rfl) ⟨Nat.le_of_ble_eq_true rfl, Nat.le_of_ble_eq_true rfl⟩ hM6 rfl rfl (Nat.le_of_ble_eq_true rfl) dL_addPitch_9 dL_addPitch_21 ?_
        refine E_iconst (v := (2 : Int32)) rfl dL_addPitch_23 ?_
        exact E_iret (Or.inr ⟨rfl, rfl⟩) rfl (by cases hF; exact hr) dL_addPitch_24
      · have hF := ite_f hF c14
        cases hF
  · rw [h5] at hM6
    generalize q1.2 = s4 at hF hM6
    refine E_callVX (na := 4) (As := [.int v1, .int v2, .int v3, .int v4]) (S := [.int (0 : Int32), .ref v5]) (kc := 0) (ks := 0) (ci := 9) rfl rfl hv0 (shape_ord hv0).1 cwV_RL_7 ⟨Nat.le_of_ble_eq_true rfl, Nat.le_of_ble_eq_true rfl⟩ hM6 rfl rfl rfl (Nat.le_of_ble_eq_true rfl) dL_addPitch_9 ?_
    refine E_i2l dL_addPitch_12 ?_
    obtain ⟨N8, h9, hF⟩ := bd_inv hF
    have h9 := aLen_inv h9
    obtain ⟨h10, hF⟩ := gd_inv hF
    refine E_last _ h9 (shape_ord h9).1 h10 dL_addPitch_13 ?_
    obtain ⟨m11, e12, hF⟩ := nx_inv hF
    refine E_mem e12 ?_
    refine E_goto (tgt := 25) rfl dL_addPitch_14 ?_
    refine E_iconst (v := (0 : Int32)) rfl dL_addPitch_25 ?_
    exact E_iret (Or.inr ⟨rfl, rfl⟩) rfl (by cases hF; exact hr) dL_addPitch_26
set_option maxHeartbeats 4000000 in
set_option maxRecDepth 100000 in
theorem T_L_pitch {l : Launch} (hfl : l.stackTraces = false) (fl : Nat) (v0 : Nat) (v1 : Int32) (v2 : Int32) (v3 : Nat) (s : Mem) (hv0 : shape v0 = some (.inl 9)) (ρ : (Int32 × Mem)) (hF : F_L_pitch fl v0 v1 v2 v3 s = some ρ) : MetX l X_L_pitch NF s [.ref v0, .int v1, .int v2, .ref v3] (.inr (some (.int ρ.1)), NF, ρ.2) := by
  unfold F_L_pitch at hF
  obtain ⟨r, hr⟩ : ∃ r : Rs, r = (.inr (some (.int ρ.1)), NF, ρ.2) := ⟨_, rfl⟩
  rw [← hr]
  refine metH_of_E rfl (by decide) (by decide +kernel) hfl rfl (Nat.le_of_ble_eq_true rfl) ?_
  show E l X_L_pitch r false NF s 2 12 0 [(0, .ref v0), (1, .int v1), (2, .int v2), (3, .ref v3)] []
  refine E_aload_n (j := 3) (i := 3) (q := 3) rfl rfl dL_pitch_0 ?_
  refine E_iconst (v := (0 : Int32)) rfl dL_pitch_1 ?_
  refine E_aload_n (j := 0) (i := 0) (q := 0) rfl rfl dL_pitch_2 ?_
  refine E_iload_n (j := 1) (i := 1) (q := 1) rfl rfl dL_pitch_3 ?_
  refine E_iload_n (j := 2) (i := 2) (q := 2) rfl rfl dL_pitch_4 ?_
  obtain ⟨q1, h2, hF⟩ := bd_inv hF
  have hM6 := T_X7_pitch hfl fl _ _ _ _ hv0 _ h2
  rcases xc_inv hF with ⟨e7, h5, hF⟩ | ⟨x3, h5, hF⟩
  · rw [h5] at hM6
    by_cases c13 : e7 = 3
    · have hF := ite_t hF c13
      subst c13
      refine E_callVX_c (i9 := 4) (na := 2) (As := [.int v1, .int v2]) (S := [.int (0 : Int32), .ref v3]) (kc := 0) (ks := 0) (ci := 9) rfl rfl hv0 (shape_ord hv0).1 cwV_RL_17 [] (0, 10, 13, 21) [(0, 10, 17, 13)] rfl ⟨Nat.le_of_ble_eq_true rfl, Nat.le_of_ble_eq_true rfl⟩ (by decide) wT509 wN6 (by intro z9 hz9; cases hz9) (Nat.le_of_ble_eq_true rfl) ⟨Nat.le_of_ble_eq_true rfl, Nat.le_of_ble_eq_true rfl⟩ hM6 rfl rfl (Nat.le_of_ble_eq_true rfl) dL_pitch_5 dL_pitch_13 ?_
      refine E_iconst (v := (1 : Int32)) rfl dL_pitch_15 ?_
      exact E_iret (Or.inr ⟨rfl, rfl⟩) rfl (by cases hF; exact hr) dL_pitch_16
    · have hF := ite_f hF c13
      by_cases c14 : e7 = 1
      · have hF := ite_t hF c14
        subst c14
        refine E_callVX_c (i9 := 4) (na := 2) (As := [.int v1, .int v2]) (S := [.int (0 : Int32), .ref v3]) (kc := 0) (ks := 0) (ci := 9) rfl rfl hv0 (shape_ord hv0).1 cwV_RL_17 [(0, 10, 13, 21)] (0, 10, 17, 13) [] rfl ⟨Nat.le_of_ble_eq_true rfl, Nat.le_of_ble_eq_true rfl⟩ (by decide) wT503 wN4 (by intro z9 hz9; simp only [List.mem_cons, List.not_mem_nil, or_false] at hz9; rcases hz9 with rfl <;> first | exact ⟨by decide, _, wT509, by decide +kernel⟩) (Nat.le_of_ble_eq_true rfl) ⟨Nat.le_of_ble_eq_true rfl, Nat.le_of_ble_eq_true rfl⟩ hM6 rfl rfl (Nat.le_of_ble_eq_true rfl) dL_pitch_5 dL_pitch_17 ?_
        refine E_iconst (v := (2 : Int32)) rfl dL_pitch_19 ?_
        exact E_iret (Or.inr ⟨rfl, rfl⟩) rfl (by cases hF; exact hr) dL_pitch_20
      · have hF := ite_f hF c14
        cases hF
  · rw [h5] at hM6
    generalize q1.2 = s4 at hF hM6
    refine E_callVX (na := 2) (As := [.int v1, .int v2]) (S := [.int (0 : Int32), .ref v3]) (kc := 0) (ks := 0) (ci := 9) rfl rfl hv0 (shape_ord hv0).1 cwV_RL_17 ⟨Nat.le_of_ble_eq_true rfl, Nat.le_of_ble_eq_true rfl⟩ hM6 rfl rfl rfl (Nat.le_of_ble_eq_true rfl) dL_pitch_5 ?_
    refine E_i2l dL_pitch_8 ?_
    obtain ⟨N8, h9, hF⟩ := bd_inv hF
    have h9 := aLen_inv h9
    obtain ⟨h10, hF⟩ := gd_inv hF
    refine E_last _ h9 (shape_ord h9).1 h10 dL_pitch_9 ?_
    obtain ⟨m11, e12, hF⟩ := nx_inv hF
    refine E_mem e12 ?_
    refine E_goto (tgt := 21) rfl dL_pitch_10 ?_
    refine E_iconst (v := (0 : Int32)) rfl dL_pitch_21 ?_
    exact E_iret (Or.inr ⟨rfl, rfl⟩) rfl (by cases hF; exact hr) dL_pitch_22
set_option maxHeartbeats 4000000 in
set_option maxRecDepth 100000 in
theorem T_L_setLimit {l : Launch} (hfl : l.stackTraces = false) (fl : Nat) (v0 : Nat) (v1 : Int32) (v2 : Int32) (v3 : Nat) (s : Mem) (hv0 : shape v0 = some (.inl 9)) (ρ : (Int32 × Mem)) (hF : F_L_setLimit fl v0 v1 v2 v3 s = some ρ) : MetX l X_L_setLimit NF s [.ref v0, .int v1, .int v2, .ref v3] (.inr (some (.int ρ.1)), NF, ρ.2) := by
  unfold F_L_setLimit at hF
  obtain ⟨r, hr⟩ : ∃ r : Rs, r = (.inr (some (.int ρ.1)), NF, ρ.2) := ⟨_, rfl⟩
  rw [← hr]
  refine metH_of_E rfl (by decide) (by decide +kernel) hfl rfl (Nat.le_of_ble_eq_true rfl) ?_
  show E l X_L_setLimit r false NF s 2 12 0 [(0, .ref v0), (1, .int v1), (2, .int v2), (3, .ref v3)] []
  refine E_aload_n (j := 3) (i := 3) (q := 3) rfl rfl dL_setLimit_0 ?_
  refine E_iconst (v := (0 : Int32)) rfl dL_setLimit_1 ?_
  refine E_aload_n (j := 0) (i := 0) (q := 0) rfl rfl dL_setLimit_2 ?_
  refine E_iload_n (j := 1) (i := 1) (q := 1) rfl rfl dL_setLimit_3 ?_
  refine E_iload_n (j := 2) (i := 2) (q := 2) rfl rfl dL_setLimit_4 ?_
  obtain ⟨q1, h2, hF⟩ := bd_inv hF
  have hM6 := T_X7_setLimit hfl fl _ _ _ _ hv0 _ h2
  rcases xc_inv hF with ⟨e7, h5, hF⟩ | ⟨x3, h5, hF⟩
  · rw [h5] at hM6
    by_cases c13 : e7 = 3
    · have hF := ite_t hF c13
      subst c13
      refine E_callVX_c (i9 := 4) (na := 2) (As := [.int v1, .int v2]) (S := [.int (0 : Int32), .ref v3]) (kc := 0) (ks := 0) (ci := 9) rfl rfl hv0 (shape_ord hv0).1 cwV_RL_23 [] (0, 10, 13, 21) [(0, 10, 17, 13)] rfl ⟨Nat.le_of_ble_eq_true rfl, Nat.le_of_ble_eq_true rfl⟩ (by decide) wT509 wN6 (by intro z9 hz9; cases hz9) (Nat.le_of_ble_eq_true rfl) ⟨Nat.le_of_ble_eq_true rfl, Nat.le_of_ble_eq_true rfl⟩ hM6 rfl rfl (Nat.le_of_ble_eq_true rfl) dL_setLimit_5 dL_setLimit_13 ?_
      refine E_iconst (v := (1 : Int32)) rfl dL_setLimit_15 ?_
      exact E_iret (Or.inr ⟨rfl, rfl⟩) rfl (by cases hF; exact hr) dL_setLimit_16
    · have hF := ite_f hF c13
      by_cases c14 : e7 = 1
      · have hF := ite_t hF c14
        subst c14
        refine E_callVX_c (i9 := 4) (na := 2) (As := [.int v1, .int v2]) (S := [.int (0 : Int32), .ref v3]) (kc := 0) (ks := 0) (ci := 9) rfl rfl hv0 (shape_ord hv0).1 cwV_RL_23 [(0, 10, 13, 21)] (0, 10, 17, 13) [] rfl ⟨Nat.le_of_ble_eq_true rfl, Nat.le_of_ble_eq_true rfl⟩ (by decide) wT503 wN4 (by intro z9 hz9; simp only [List.mem_cons, List.not_mem_nil, or_false] at hz9; rcases hz9 with rfl <;> first | exact ⟨by decide, _, wT509, by decide +kernel⟩) (Nat.le_of_ble_eq_true rfl) ⟨Nat.le_of_ble_eq_true rfl, Nat.le_of_ble_eq_true rfl⟩ hM6 rfl rfl (Nat.le_of_ble_eq_true rfl) dL_setLimit_5 dL_setLimit_17 ?_
        refine E_iconst (v := (2 : Int32)) rfl dL_setLimit_19 ?_
        exact E_iret (Or.inr ⟨rfl, rfl⟩) rfl (by cases hF; exact hr) dL_setLimit_20
      · have hF := ite_f hF c14
        cases hF
  · rw [h5] at hM6
    generalize q1.2 = s4 at hF hM6
    refine E_callVX (na := 2) (As := [.int v1, .int v2]) (S := [.int (0 : Int32), .ref v3]) (kc := 0) (ks := 0) (ci := 9) rfl rfl hv0 (shape_ord hv0).1 cwV_RL_23 ⟨Nat.le_of_ble_eq_true rfl, Nat.le_of_ble_eq_true rfl⟩ hM6 rfl rfl rfl (Nat.le_of_ble_eq_true rfl) dL_setLimit_5 ?_
    refine E_i2l dL_setLimit_8 ?_
    obtain ⟨N8, h9, hF⟩ := bd_inv hF
    have h9 := aLen_inv h9
    obtain ⟨h10, hF⟩ := gd_inv hF
    refine E_last _ h9 (shape_ord h9).1 h10 dL_setLimit_9 ?_
    obtain ⟨m11, e12, hF⟩ := nx_inv hF
    refine E_mem e12 ?_
    refine E_goto (tgt := 21) rfl dL_setLimit_10 ?_
    refine E_iconst (v := (0 : Int32)) rfl dL_setLimit_21 ?_
    exact E_iret (Or.inr ⟨rfl, rfl⟩) rfl (by cases hF; exact hr) dL_setLimit_22
set_option maxHeartbeats 4000000 in
set_option maxRecDepth 100000 in
theorem T_L_setRate {l : Launch} (hfl : l.stackTraces = false) (fl : Nat) (v0 : Nat) (v1 : Int32) (v2 : Int32) (v3 : Nat) (s : Mem) (hv0 : shape v0 = some (.inl 9)) (ρ : (Int32 × Mem)) (hF : F_L_setRate fl v0 v1 v2 v3 s = some ρ) : MetX l X_L_setRate NF s [.ref v0, .int v1, .int v2, .ref v3] (.inr (some (.int ρ.1)), NF, ρ.2) := by
  unfold F_L_setRate at hF
  obtain ⟨r, hr⟩ : ∃ r : Rs, r = (.inr (some (.int ρ.1)), NF, ρ.2) := ⟨_, rfl⟩
  rw [← hr]
  refine metH_of_E rfl (by decide) (by decide +kernel) hfl rfl (Nat.le_of_ble_eq_true rfl) ?_
  show E l X_L_setRate r false NF s 2 12 0 [(0, .ref v0), (1, .int v1), (2, .int v2), (3, .ref v3)] []
  refine E_aload_n (j := 3) (i := 3) (q := 3) rfl rfl dL_setRate_0 ?_
  refine E_iconst (v := (0 : Int32)) rfl dL_setRate_1 ?_
  refine E_aload_n (j := 0) (i := 0) (q := 0) rfl rfl dL_setRate_2 ?_
  refine E_iload_n (j := 1) (i := 1) (q := 1) rfl rfl dL_setRate_3 ?_
  refine E_iload_n (j := 2) (i := 2) (q := 2) rfl rfl dL_setRate_4 ?_
  obtain ⟨q1, h2, hF⟩ := bd_inv hF
  have hM6 := T_X7_setRate hfl fl _ _ _ _ hv0 _ h2
  rcases xc_inv hF with ⟨e7, h5, hF⟩ | ⟨x3, h5, hF⟩
  · rw [h5] at hM6
    by_cases c13 : e7 = 3
    · have hF := ite_t hF c13
      subst c13
      refine E_callVX_c (i9 := 4) (na := 2) (As := [.int v1, .int v2]) (S := [.int (0 : Int32), .ref v3]) (kc := 0) (ks := 0) (ci := 9) rfl rfl hv0 (shape_ord hv0).1 cwV_RL_26 [] (0, 10, 13, 21) [(0, 10, 17, 13)] rfl ⟨Nat.le_of_ble_eq_true rfl, Nat.le_of_ble_eq_true rfl⟩ (by decide) wT509 wN6 (by intro z9 hz9; cases hz9) (Nat.le_of_ble_eq_true rfl) ⟨Nat.le_of_ble_eq_true rfl, Nat.le_of_ble_eq_true rfl⟩ hM6 rfl rfl (Nat.le_of_ble_eq_true rfl) dL_setRate_5 dL_setRate_13 ?_
      refine E_iconst (v := (1 : Int32)) rfl dL_setRate_15 ?_
      exact E_iret (Or.inr ⟨rfl, rfl⟩) rfl (by cases hF; exact hr) dL_setRate_16
    · have hF := ite_f hF c13
      by_cases c14 : e7 = 1
      · have hF := ite_t hF c14
        subst c14
        refine E_callVX_c (i9 := 4) (na := 2) (As := [.int v1, .int v2]) (S := [.int (0 : Int32), .ref v3]) (kc := 0) (ks := 0) (ci := 9) rfl rfl hv0 (shape_ord hv0).1 cwV_RL_26 [(0, 10, 13, 21)] (0, 10, 17, 13) [] rfl ⟨Nat.le_of_ble_eq_true rfl, Nat.le_of_ble_eq_true rfl⟩ (by decide) wT503 wN4 (by intro z9 hz9; simp only [List.mem_cons, List.not_mem_nil, or_false] at hz9; rcases hz9 with rfl <;> first | exact ⟨by decide, _, wT509, by decide +kernel⟩) (Nat.le_of_ble_eq_true rfl) ⟨Nat.le_of_ble_eq_true rfl, Nat.le_of_ble_eq_true rfl⟩ hM6 rfl rfl (Nat.le_of_ble_eq_true rfl) dL_setRate_5 dL_setRate_17 ?_
        refine E_iconst (v := (2 : Int32)) rfl dL_setRate_19 ?_
        exact E_iret (Or.inr ⟨rfl, rfl⟩) rfl (by cases hF; exact hr) dL_setRate_20
      · have hF := ite_f hF c14
        cases hF
  · rw [h5] at hM6
    generalize q1.2 = s4 at hF hM6
    refine E_callVX (na := 2) (As := [.int v1, .int v2]) (S := [.int (0 : Int32), .ref v3]) (kc := 0) (ks := 0) (ci := 9) rfl rfl hv0 (shape_ord hv0).1 cwV_RL_26 ⟨Nat.le_of_ble_eq_true rfl, Nat.le_of_ble_eq_true rfl⟩ hM6 rfl rfl rfl (Nat.le_of_ble_eq_true rfl) dL_setRate_5 ?_
    refine E_i2l dL_setRate_8 ?_
    obtain ⟨N8, h9, hF⟩ := bd_inv hF
    have h9 := aLen_inv h9
    obtain ⟨h10, hF⟩ := gd_inv hF
    refine E_last _ h9 (shape_ord h9).1 h10 dL_setRate_9 ?_
    obtain ⟨m11, e12, hF⟩ := nx_inv hF
    refine E_mem e12 ?_
    refine E_goto (tgt := 21) rfl dL_setRate_10 ?_
    refine E_iconst (v := (0 : Int32)) rfl dL_setRate_21 ?_
    exact E_iret (Or.inr ⟨rfl, rfl⟩) rfl (by cases hF; exact hr) dL_setRate_22
set_option maxHeartbeats 4000000 in
set_option maxRecDepth 100000 in
theorem T_L_setGap {l : Launch} (hfl : l.stackTraces = false) (fl : Nat) (v0 : Nat) (v1 : Int32) (v2 : Nat) (s : Mem) (hv0 : shape v0 = some (.inl 9)) (ρ : (Int32 × Mem)) (hF : F_L_setGap fl v0 v1 v2 s = some ρ) : MetX l X_L_setGap NF s [.ref v0, .int v1, .ref v2] (.inr (some (.int ρ.1)), NF, ρ.2) := by
  unfold F_L_setGap at hF
  obtain ⟨r, hr⟩ : ∃ r : Rs, r = (.inr (some (.int ρ.1)), NF, ρ.2) := ⟨_, rfl⟩
  rw [← hr]
  refine metH_of_E rfl (by decide) (by decide +kernel) hfl rfl (Nat.le_of_ble_eq_true rfl) ?_
  show E l X_L_setGap r false NF s 1 6 0 [(0, .ref v0), (1, .int v1), (2, .ref v2)] []
  refine E_aload_n (j := 2) (i := 2) (q := 2) rfl rfl dL_setGap_0 ?_
  refine E_iconst (v := (0 : Int32)) rfl dL_setGap_1 ?_
  refine E_aload_n (j := 0) (i := 0) (q := 0) rfl rfl dL_setGap_2 ?_
  refine E_iload_n (j := 1) (i := 1) (q := 1) rfl rfl dL_setGap_3 ?_
  obtain ⟨q1, h2, hF⟩ := bd_inv hF
  have hM6 := T_X7_setGap hfl fl _ _ _ hv0 _ h2
  rcases xc_inv hF with ⟨e7, h5, hF⟩ | ⟨x3, h5, hF⟩
  · rw [h5] at hM6
    by_cases c13 : e7 = 1
    · have hF := ite_t hF c13
      subst c13
      refine E_callVX_c_n (i9 := 3) (na := 1) (As := [.int v1]) (S := [.int (0 : Int32), .ref v2]) (kc := 0) (ks := 0) (ci := 9) rfl rfl hv0 (shape_ord hv0).1 cwV_RL_29 [] (0, 9, 12, 13) [] rfl ⟨Nat.le_of_ble_eq_true rfl, Nat.le_of_ble_eq_true rfl⟩ (by decide) wT503 wN4 (by intro z9 hz9; cases hz9) (j9 := 3) rfl (Nat.le_of_ble_eq_true rfl) ⟨Nat.le_of_ble_eq_true rfl, Nat.le_of_ble_eq_true rfl⟩ hM6 rfl rfl (Nat.le_of_ble_eq_true rfl) dL_setGap_4 dL_setGap_12 ?_
      refine E_iconst (v := (1 : Int32)) rfl dL_setGap_13 ?_
      exact E_iret (Or.inr ⟨rfl, rfl⟩) rfl (by cases hF; exact hr) dL_setGap_14
    · have hF := ite_f hF c13
      cases hF
  · rw [h5] at hM6
    generalize q1.2 = s4 at hF hM6
    refine E_callVX (na := 1) (As := [.int v1]) (S := [.int (0 : Int32), .ref v2]) (kc := 0) (ks := 0) (ci := 9) rfl rfl hv0 (shape_ord hv0).1 cwV_RL_29 ⟨Nat.le_of_ble_eq_true rfl, Nat.le_of_ble_eq_true rfl⟩ hM6 rfl rfl rfl (Nat.le_of_ble_eq_true rfl) dL_setGap_4 ?_
    refine E_i2l dL_setGap_7 ?_
    obtain ⟨N8, h9, hF⟩ := bd_inv hF
    have h9 := aLen_inv h9
    obtain ⟨h10, hF⟩ := gd_inv hF
    refine E_last _ h9 (shape_ord h9).1 h10 dL_setGap_8 ?_
    obtain ⟨m11, e12, hF⟩ := nx_inv hF
    refine E_mem e12 ?_
    refine E_goto (tgt := 15) rfl dL_setGap_9 ?_
    refine E_iconst (v := (0 : Int32)) rfl dL_setGap_15 ?_
    exact E_iret (Or.inr ⟨rfl, rfl⟩) rfl (by cases hF; exact hr) dL_setGap_16
set_option maxHeartbeats 4000000 in
set_option maxRecDepth 100000 in
theorem T_L_addSeason {l : Launch} (hfl : l.stackTraces = false) (fl : Nat) (v0 : Nat) (v1 : Int32) (v2 : Int32) (v3 : Int32) (v4 : Nat) (s : Mem) (hv0 : shape v0 = some (.inl 9)) (ρ : (Int32 × Mem)) (hF : F_L_addSeason fl v0 v1 v2 v3 v4 s = some ρ) : MetX l X_L_addSeason NF s [.ref v0, .int v1, .int v2, .int v3, .ref v4] (.inr (some (.int ρ.1)), NF, ρ.2) := by
  unfold F_L_addSeason at hF
  obtain ⟨r, hr⟩ : ∃ r : Rs, r = (.inr (some (.int ρ.1)), NF, ρ.2) := ⟨_, rfl⟩
  rw [← hr]
  refine metH_of_E rfl (by decide) (by decide +kernel) hfl rfl (Nat.le_of_ble_eq_true rfl) ?_
  show E l X_L_addSeason r false NF s 1 6 0 [(0, .ref v0), (1, .int v1), (2, .int v2), (3, .int v3), (4, .ref v4)] []
  refine E_aload (q := 4) rfl dL_addSeason_0 ?_
  refine E_iconst (v := (0 : Int32)) rfl dL_addSeason_2 ?_
  refine E_aload_n (j := 0) (i := 0) (q := 0) rfl rfl dL_addSeason_3 ?_
  refine E_iload_n (j := 1) (i := 1) (q := 1) rfl rfl dL_addSeason_4 ?_
  refine E_iload_n (j := 2) (i := 2) (q := 2) rfl rfl dL_addSeason_5 ?_
  refine E_iload_n (j := 3) (i := 3) (q := 3) rfl rfl dL_addSeason_6 ?_
  obtain ⟨q1, h2, hF⟩ := bd_inv hF
  have hM6 := T_X7_addSeason hfl fl _ _ _ _ _ hv0 _ h2
  rcases xc_inv hF with ⟨e7, h5, hF⟩ | ⟨x3, h5, hF⟩
  · rw [h5] at hM6
    by_cases c13 : e7 = 1
    · have hF := ite_t hF c13
      subst c13
      refine E_callVX_c (i9 := 5) (na := 3) (As := [.int v1, .int v2, .int v3]) (S := [.int (0 : Int32), .ref v4]) (kc := 0) (ks := 0) (ci := 9) rfl rfl hv0 (shape_ord hv0).1 cwV_RL_33 [] (0, 12, 15, 13) [(0, 12, 19, 15)] rfl ⟨Nat.le_of_ble_eq_true rfl, Nat.le_of_ble_eq_true rfl⟩ (by decide) wT503 wN4 (by intro z9 hz9; cases hz9) (Nat.le_of_ble_eq_true rfl) ⟨Nat.le_of_ble_eq_true rfl, Nat.le_of_ble_eq_true rfl⟩ hM6 rfl rfl (Nat.le_of_ble_eq_true rfl) dL_addSeason_7 dL_addSeason_15 ?_
      refine E_iconst (v := (1 : Int32)) rfl dL_addSeason_17 ?_
      exact E_iret (Or.inr ⟨rfl, rfl⟩) rfl (by cases hF; exact hr) dL_addSeason_18
    · have hF := ite_f hF c13
      by_cases c14 : e7 = 2
      · have hF := ite_t hF c14
        subst c14
        refine E_callVX_c (i9 := 5) (na := 3) (As := [.int v1, .int v2, .int v3]) (S := [.int (0 : Int32), .ref v4]) (kc := 0) (ks := 0) (ci := 9) rfl rfl hv0 (shape_ord hv0).1 cwV_RL_33 [(0, 12, 15, 13)] (0, 12, 19, 15) [] rfl ⟨Nat.le_of_ble_eq_true rfl, Nat.le_of_ble_eq_true rfl⟩ (by decide) wT504 wN5 (by intro z9 hz9; simp only [List.mem_cons, List.not_mem_nil, or_false] at hz9; rcases hz9 with rfl <;> first | exact ⟨by decide, _, wT503, by decide +kernel⟩) (Nat.le_of_ble_eq_true rfl) ⟨Nat.le_of_ble_eq_true rfl, Nat.le_of_ble_eq_true rfl⟩ hM6 rfl rfl (Nat.le_of_ble_eq_true rfl) dL_addSeason_7 dL_addSeason_19 ?_
        refine E_iconst (v := (2 : Int32)) rfl dL_addSeason_21 ?_
        exact E_iret (Or.inr ⟨rfl, rfl⟩) rfl (by cases hF; exact hr) dL_addSeason_22
      · have hF := ite_f hF c14
        cases hF
  · rw [h5] at hM6
    generalize q1.2 = s4 at hF hM6
    refine E_callVX (na := 3) (As := [.int v1, .int v2, .int v3]) (S := [.int (0 : Int32), .ref v4]) (kc := 0) (ks := 0) (ci := 9) rfl rfl hv0 (shape_ord hv0).1 cwV_RL_33 ⟨Nat.le_of_ble_eq_true rfl, Nat.le_of_ble_eq_true rfl⟩ hM6 rfl rfl rfl (Nat.le_of_ble_eq_true rfl) dL_addSeason_7 ?_
    refine E_i2l dL_addSeason_10 ?_
    obtain ⟨N8, h9, hF⟩ := bd_inv hF
    have h9 := aLen_inv h9
    obtain ⟨h10, hF⟩ := gd_inv hF
    refine E_last _ h9 (shape_ord h9).1 h10 dL_addSeason_11 ?_
    obtain ⟨m11, e12, hF⟩ := nx_inv hF
    refine E_mem e12 ?_
    refine E_goto (tgt := 23) rfl dL_addSeason_12 ?_
    refine E_iconst (v := (0 : Int32)) rfl dL_addSeason_23 ?_
    exact E_iret (Or.inr ⟨rfl, rfl⟩) rfl (by cases hF; exact hr) dL_addSeason_24
set_option maxHeartbeats 4000000 in
set_option maxRecDepth 100000 in
theorem T_L_dropSeason {l : Launch} (hfl : l.stackTraces = false) (fl : Nat) (v0 : Nat) (v1 : Int32) (v2 : Nat) (s : Mem) (hv0 : shape v0 = some (.inl 9)) (ρ : (Int32 × Mem)) (hF : F_L_dropSeason fl v0 v1 v2 s = some ρ) : MetX l X_L_dropSeason NF s [.ref v0, .int v1, .ref v2] (.inr (some (.int ρ.1)), NF, ρ.2) := by
  unfold F_L_dropSeason at hF
  obtain ⟨r, hr⟩ : ∃ r : Rs, r = (.inr (some (.int ρ.1)), NF, ρ.2) := ⟨_, rfl⟩
  rw [← hr]
  refine metH_of_E rfl (by decide) (by decide +kernel) hfl rfl (Nat.le_of_ble_eq_true rfl) ?_
  show E l X_L_dropSeason r false NF s 1 6 0 [(0, .ref v0), (1, .int v1), (2, .ref v2)] []
  refine E_aload_n (j := 2) (i := 2) (q := 2) rfl rfl dL_dropSeason_0 ?_
  refine E_iconst (v := (0 : Int32)) rfl dL_dropSeason_1 ?_
  refine E_aload_n (j := 0) (i := 0) (q := 0) rfl rfl dL_dropSeason_2 ?_
  refine E_iload_n (j := 1) (i := 1) (q := 1) rfl rfl dL_dropSeason_3 ?_
  obtain ⟨q1, h2, hF⟩ := bd_inv hF
  have hM6 := T_X7_dropSeason hfl fl _ _ _ hv0 _ h2
  rcases xc_inv hF with ⟨e7, h5, hF⟩ | ⟨x3, h5, hF⟩
  · rw [h5] at hM6
    by_cases c13 : e7 = 3
    · have hF := ite_t hF c13
      subst c13
      refine E_callVX_c_n (i9 := 3) (na := 1) (As := [.int v1]) (S := [.int (0 : Int32), .ref v2]) (kc := 0) (ks := 0) (ci := 9) rfl rfl hv0 (shape_ord hv0).1 cwV_RL_37 [] (0, 9, 12, 21) [] rfl ⟨Nat.le_of_ble_eq_true rfl, Nat.le_of_ble_eq_true rfl⟩ (by decide) wT509 wN6 (by intro z9 hz9; cases hz9) (j9 := 3) rfl (Nat.le_of_ble_eq_true rfl) ⟨Nat.le_of_ble_eq_true rfl, Nat.le_of_ble_eq_true rfl⟩ hM6 rfl rfl (Nat.le_of_ble_eq_true rfl) dL_dropSeason_4 dL_dropSeason_12 ?_
      refine E_iconst (v := (1 : Int32)) rfl dL_dropSeason_13 ?_
      exact E_iret (Or.inr ⟨rfl, rfl⟩) rfl (by cases hF; exact hr) dL_dropSeason_14
    · have hF := ite_f hF c13
      cases hF
  · rw [h5] at hM6
    generalize q1.2 = s4 at hF hM6
    refine E_callVX (na := 1) (As := [.int v1]) (S := [.int (0 : Int32), .ref v2]) (kc := 0) (ks := 0) (ci := 9) rfl rfl hv0 (shape_ord hv0).1 cwV_RL_37 ⟨Nat.le_of_ble_eq_true rfl, Nat.le_of_ble_eq_true rfl⟩ hM6 rfl rfl rfl (Nat.le_of_ble_eq_true rfl) dL_dropSeason_4 ?_
    refine E_i2l dL_dropSeason_7 ?_
    obtain ⟨N8, h9, hF⟩ := bd_inv hF
    have h9 := aLen_inv h9
    obtain ⟨h10, hF⟩ := gd_inv hF
    refine E_last _ h9 (shape_ord h9).1 h10 dL_dropSeason_8 ?_
    obtain ⟨m11, e12, hF⟩ := nx_inv hF
    refine E_mem e12 ?_
    refine E_goto (tgt := 15) rfl dL_dropSeason_9 ?_
    refine E_iconst (v := (0 : Int32)) rfl dL_dropSeason_15 ?_
    exact E_iret (Or.inr ⟨rfl, rfl⟩) rfl (by cases hF; exact hr) dL_dropSeason_16
set_option maxHeartbeats 4000000 in
set_option maxRecDepth 100000 in
theorem T_L_season {l : Launch} (hfl : l.stackTraces = false) (fl : Nat) (v0 : Nat) (v1 : Int32) (v2 : Int32) (v3 : Nat) (s : Mem) (hv0 : shape v0 = some (.inl 9)) (ρ : (Int32 × Mem)) (hF : F_L_season fl v0 v1 v2 v3 s = some ρ) : MetX l X_L_season NF s [.ref v0, .int v1, .int v2, .ref v3] (.inr (some (.int ρ.1)), NF, ρ.2) := by
  unfold F_L_season at hF
  obtain ⟨r, hr⟩ : ∃ r : Rs, r = (.inr (some (.int ρ.1)), NF, ρ.2) := ⟨_, rfl⟩
  rw [← hr]
  refine metH_of_E rfl (by decide) (by decide +kernel) hfl rfl (Nat.le_of_ble_eq_true rfl) ?_
  show E l X_L_season r false NF s 2 12 0 [(0, .ref v0), (1, .int v1), (2, .int v2), (3, .ref v3)] []
  refine E_aload_n (j := 3) (i := 3) (q := 3) rfl rfl dL_season_0 ?_
  refine E_iconst (v := (0 : Int32)) rfl dL_season_1 ?_
  refine E_aload_n (j := 0) (i := 0) (q := 0) rfl rfl dL_season_2 ?_
  refine E_iload_n (j := 1) (i := 1) (q := 1) rfl rfl dL_season_3 ?_
  refine E_iload_n (j := 2) (i := 2) (q := 2) rfl rfl dL_season_4 ?_
  obtain ⟨q1, h2, hF⟩ := bd_inv hF
  have hM6 := T_X7_season hfl fl _ _ _ _ hv0 _ h2
  rcases xc_inv hF with ⟨e7, h5, hF⟩ | ⟨x3, h5, hF⟩
  · rw [h5] at hM6
    by_cases c13 : e7 = 3
    · have hF := ite_t hF c13
      subst c13
      refine E_callVX_c (i9 := 4) (na := 2) (As := [.int v1, .int v2]) (S := [.int (0 : Int32), .ref v3]) (kc := 0) (ks := 0) (ci := 9) rfl rfl hv0 (shape_ord hv0).1 cwV_RL_40 [] (0, 10, 13, 21) [(0, 10, 17, 13)] rfl ⟨Nat.le_of_ble_eq_true rfl, Nat.le_of_ble_eq_true rfl⟩ (by decide) wT509 wN6 (by intro z9 hz9; cases hz9) (Nat.le_of_ble_eq_true rfl) ⟨Nat.le_of_ble_eq_true rfl, Nat.le_of_ble_eq_true rfl⟩ hM6 rfl rfl (Nat.le_of_ble_eq_true rfl) dL_season_5 dL_season_13 ?_
      refine E_iconst (v := (1 : Int32)) rfl dL_season_15 ?_
      exact E_iret (Or.inr ⟨rfl, rfl⟩) rfl (by cases hF; exact hr) dL_season_16
    · have hF := ite_f hF c13
      by_cases c14 : e7 = 1
      · have hF := ite_t hF c14
        subst c14
        refine E_callVX_c (i9 := 4) (na := 2) (As := [.int v1, .int v2]) (S := [.int (0 : Int32), .ref v3]) (kc := 0) (ks := 0) (ci := 9) rfl rfl hv0 (shape_ord hv0).1 cwV_RL_40 [(0, 10, 13, 21)] (0, 10, 17, 13) [] rfl ⟨Nat.le_of_ble_eq_true rfl, Nat.le_of_ble_eq_true rfl⟩ (by decide) wT503 wN4 (by intro z9 hz9; simp only [List.mem_cons, List.not_mem_nil, or_false] at hz9; rcases hz9 with rfl <;> first | exact ⟨by decide, _, wT509, by decide +kernel⟩) (Nat.le_of_ble_eq_true rfl) ⟨Nat.le_of_ble_eq_true rfl, Nat.le_of_ble_eq_true rfl⟩ hM6 rfl rfl (Nat.le_of_ble_eq_true rfl) dL_season_5 dL_season_17 ?_
        refine E_iconst (v := (2 : Int32)) rfl dL_season_19 ?_
        exact E_iret (Or.inr ⟨rfl, rfl⟩) rfl (by cases hF; exact hr) dL_season_20
      · have hF := ite_f hF c14
        cases hF
  · rw [h5] at hM6
    generalize q1.2 = s4 at hF hM6
    refine E_callVX (na := 2) (As := [.int v1, .int v2]) (S := [.int (0 : Int32), .ref v3]) (kc := 0) (ks := 0) (ci := 9) rfl rfl hv0 (shape_ord hv0).1 cwV_RL_40 ⟨Nat.le_of_ble_eq_true rfl, Nat.le_of_ble_eq_true rfl⟩ hM6 rfl rfl rfl (Nat.le_of_ble_eq_true rfl) dL_season_5 ?_
    refine E_i2l dL_season_8 ?_
    obtain ⟨N8, h9, hF⟩ := bd_inv hF
    have h9 := aLen_inv h9
    obtain ⟨h10, hF⟩ := gd_inv hF
    refine E_last _ h9 (shape_ord h9).1 h10 dL_season_9 ?_
    obtain ⟨m11, e12, hF⟩ := nx_inv hF
    refine E_mem e12 ?_
    refine E_goto (tgt := 21) rfl dL_season_10 ?_
    refine E_iconst (v := (0 : Int32)) rfl dL_season_21 ?_
    exact E_iret (Or.inr ⟨rfl, rfl⟩) rfl (by cases hF; exact hr) dL_season_22
set_option maxHeartbeats 4000000 in
set_option maxRecDepth 100000 in
theorem T_L_leastStay {l : Launch} (hfl : l.stackTraces = false) (fl : Nat) (v0 : Nat) (v1 : Int32) (v2 : Int32) (v3 : Nat) (s : Mem) (hv0 : shape v0 = some (.inl 9)) (ρ : (Int32 × Mem)) (hF : F_L_leastStay fl v0 v1 v2 v3 s = some ρ) : MetX l X_L_leastStay NF s [.ref v0, .int v1, .int v2, .ref v3] (.inr (some (.int ρ.1)), NF, ρ.2) := by
  unfold F_L_leastStay at hF
  obtain ⟨r, hr⟩ : ∃ r : Rs, r = (.inr (some (.int ρ.1)), NF, ρ.2) := ⟨_, rfl⟩
  rw [← hr]
  refine metH_of_E rfl (by decide) (by decide +kernel) hfl rfl (Nat.le_of_ble_eq_true rfl) ?_
  show E l X_L_leastStay r false NF s 1 6 0 [(0, .ref v0), (1, .int v1), (2, .int v2), (3, .ref v3)] []
  refine E_aload_n (j := 3) (i := 3) (q := 3) rfl rfl dL_leastStay_0 ?_
  refine E_iconst (v := (0 : Int32)) rfl dL_leastStay_1 ?_
  refine E_aload_n (j := 0) (i := 0) (q := 0) rfl rfl dL_leastStay_2 ?_
  refine E_iload_n (j := 1) (i := 1) (q := 1) rfl rfl dL_leastStay_3 ?_
  refine E_iload_n (j := 2) (i := 2) (q := 2) rfl rfl dL_leastStay_4 ?_
  obtain ⟨q1, h2, hF⟩ := bd_inv hF
  have hM6 := T_X7_leastStay hfl fl _ _ _ _ hv0 _ h2
  rcases xc_inv hF with ⟨e7, h5, hF⟩ | ⟨x3, h5, hF⟩
  · rw [h5] at hM6
    by_cases c13 : e7 = 1
    · have hF := ite_t hF c13
      subst c13
      refine E_callVX_c (i9 := 4) (na := 2) (As := [.int v1, .int v2]) (S := [.int (0 : Int32), .ref v3]) (kc := 0) (ks := 0) (ci := 9) rfl rfl hv0 (shape_ord hv0).1 cwV_RL_43 [] (0, 10, 13, 13) [] rfl ⟨Nat.le_of_ble_eq_true rfl, Nat.le_of_ble_eq_true rfl⟩ (by decide) wT503 wN4 (by intro z9 hz9; cases hz9) (Nat.le_of_ble_eq_true rfl) ⟨Nat.le_of_ble_eq_true rfl, Nat.le_of_ble_eq_true rfl⟩ hM6 rfl rfl (Nat.le_of_ble_eq_true rfl) dL_leastStay_5 dL_leastStay_13 ?_
      refine E_iconst (v := (1 : Int32)) rfl dL_leastStay_15 ?_
      exact E_iret (Or.inr ⟨rfl, rfl⟩) rfl (by cases hF; exact hr) dL_leastStay_16
    · have hF := ite_f hF c13
      cases hF
  · rw [h5] at hM6
    generalize q1.2 = s4 at hF hM6
    refine E_callVX (na := 2) (As := [.int v1, .int v2]) (S := [.int (0 : Int32), .ref v3]) (kc := 0) (ks := 0) (ci := 9) rfl rfl hv0 (shape_ord hv0).1 cwV_RL_43 ⟨Nat.le_of_ble_eq_true rfl, Nat.le_of_ble_eq_true rfl⟩ hM6 rfl rfl rfl (Nat.le_of_ble_eq_true rfl) dL_leastStay_5 ?_
    refine E_i2l dL_leastStay_8 ?_
    obtain ⟨N8, h9, hF⟩ := bd_inv hF
    have h9 := aLen_inv h9
    obtain ⟨h10, hF⟩ := gd_inv hF
    refine E_last _ h9 (shape_ord h9).1 h10 dL_leastStay_9 ?_
    obtain ⟨m11, e12, hF⟩ := nx_inv hF
    refine E_mem e12 ?_
    refine E_goto (tgt := 17) rfl dL_leastStay_10 ?_
    refine E_iconst (v := (0 : Int32)) rfl dL_leastStay_17 ?_
    exact E_iret (Or.inr ⟨rfl, rfl⟩) rfl (by cases hF; exact hr) dL_leastStay_18
set_option maxHeartbeats 4000000 in
set_option maxRecDepth 100000 in
theorem T_L_book {l : Launch} (hfl : l.stackTraces = false) (fl : Nat) (v0 : Nat) (v1 : Int32) (v2 : Int32) (v3 : Int32) (v4 : Int32) (v5 : Int32) (v6 : Int32) (v7 : Nat) (s : Mem) (hv0 : shape v0 = some (.inl 9)) (ρ : (Int32 × Mem)) (hF : F_L_book fl v0 v1 v2 v3 v4 v5 v6 v7 s = some ρ) : MetX l X_L_book NF s [.ref v0, .int v1, .int v2, .int v3, .int v4, .int v5, .int v6, .ref v7] (.inr (some (.int ρ.1)), NF, ρ.2) := by
  unfold F_L_book at hF
  obtain ⟨r, hr⟩ : ∃ r : Rs, r = (.inr (some (.int ρ.1)), NF, ρ.2) := ⟨_, rfl⟩
  rw [← hr]
  refine metH_of_E rfl (by decide) (by decide +kernel) hfl rfl (Nat.le_of_ble_eq_true rfl) ?_
  show E l X_L_book r false NF s 1 6 0 [(0, .ref v0), (1, .int v1), (2, .int v2), (3, .int v3), (4, .int v4), (5, .int v5), (6, .int v6), (7, .ref v7)] []
  refine E_aload (q := 7) rfl dL_book_0 ?_
  refine E_iconst (v := (0 : Int32)) rfl dL_book_2 ?_
  refine E_aload_n (j := 0) (i := 0) (q := 0) rfl rfl dL_book_3 ?_
  refine E_iload_n (j := 1) (i := 1) (q := 1) rfl rfl dL_book_4 ?_
  refine E_iload_n (j := 2) (i := 2) (q := 2) rfl rfl dL_book_5 ?_
  refine E_iload_n (j := 3) (i := 3) (q := 3) rfl rfl dL_book_6 ?_
  refine E_iload (q := 4) rfl dL_book_7 ?_
  refine E_iload (q := 5) rfl dL_book_9 ?_
  refine E_iload (q := 6) rfl dL_book_11 ?_
  obtain ⟨q1, h2, hF⟩ := bd_inv hF
  have hM6 := T_X7_book hfl fl _ _ _ _ _ _ _ _ hv0 _ h2
  rcases xc_inv hF with ⟨e7, h5, hF⟩ | ⟨x3, h5, hF⟩
  · rw [h5] at hM6
    by_cases c13 : e7 = 1
    · have hF := ite_t hF c13
      subst c13
      refine E_callVX_c (i9 := 8) (na := 6) (As := [.int v1, .int v2, .int v3, .int v4, .int v5, .int v6]) (S := [.int (0 : Int32), .ref v7]) (kc := 0) (ks := 0) (ci := 9) rfl rfl hv0 (shape_ord hv0).1 cwV_RL_46 [] (0, 18, 21, 13) [(0, 18, 25, 15), (0, 18, 29, 50)] rfl ⟨Nat.le_of_ble_eq_true rfl, Nat.le_of_ble_eq_true rfl⟩ (by decide) wT503 wN4 (by intro z9 hz9; cases hz9) (Nat.le_of_ble_eq_true rfl) ⟨Nat.le_of_ble_eq_true rfl, Nat.le_of_ble_eq_true rfl⟩ hM6 rfl rfl (Nat.le_of_ble_eq_true rfl) dL_book_13 dL_book_21 ?_
      refine E_iconst (v := (1 : Int32)) rfl dL_book_23 ?_
      exact E_iret (Or.inr ⟨rfl, rfl⟩) rfl (by cases hF; exact hr) dL_book_24
    · have hF := ite_f hF c13
      by_cases c14 : e7 = 2
      · have hF := ite_t hF c14
        subst c14
        refine E_callVX_c (i9 := 8) (na := 6) (As := [.int v1, .int v2, .int v3, .int v4, .int v5, .int v6]) (S := [.int (0 : Int32), .ref v7]) (kc := 0) (ks := 0) (ci := 9) rfl rfl hv0 (shape_ord hv0).1 cwV_RL_46 [(0, 18, 21, 13)] (0, 18, 25, 15) [(0, 18, 29, 50)] rfl ⟨Nat.le_of_ble_eq_true rfl, Nat.le_of_ble_eq_true rfl⟩ (by decide) wT504 wN5 (by intro z9 hz9; simp only [List.mem_cons, List.not_mem_nil, or_false] at hz9; rcases hz9 with rfl <;> first | exact ⟨by decide, _, wT503, by decide +kernel⟩) (Nat.le_of_ble_eq_true rfl) ⟨Nat.le_of_ble_eq_true rfl, Nat.le_of_ble_eq_true rfl⟩ hM6 rfl rfl (Nat.le_of_ble_eq_true rfl) dL_book_13 dL_book_25 ?_
        refine E_iconst (v := (2 : Int32)) rfl dL_book_27 ?_
        exact E_iret (Or.inr ⟨rfl, rfl⟩) rfl (by cases hF; exact hr) dL_book_28
      · have hF := ite_f hF c14
        by_cases c15 : e7 = 5
        · have hF := ite_t hF c15
          subst c15
          refine E_callVX_c (i9 := 8) (na := 6) (As := [.int v1, .int v2, .int v3, .int v4, .int v5, .int v6]) (S := [.int (0 : Int32), .ref v7]) (kc := 0) (ks := 0) (ci := 9) rfl rfl hv0 (shape_ord hv0).1 cwV_RL_46 [(0, 18, 21, 13), (0, 18, 25, 15)] (0, 18, 29, 50) [] rfl ⟨Nat.le_of_ble_eq_true rfl, Nat.le_of_ble_eq_true rfl⟩ (by decide) wT539 wN7 (by intro z9 hz9; simp only [List.mem_cons, List.not_mem_nil, or_false] at hz9; rcases hz9 with rfl | rfl <;> first | exact ⟨by decide, _, wT503, by decide +kernel⟩ | exact ⟨by decide, _, wT504, by decide +kernel⟩) (Nat.le_of_ble_eq_true rfl) ⟨Nat.le_of_ble_eq_true rfl, Nat.le_of_ble_eq_true rfl⟩ hM6 rfl rfl (Nat.le_of_ble_eq_true rfl) dL_book_13 dL_book_29 ?_
          refine E_iconst (v := (3 : Int32)) rfl dL_book_31 ?_
          exact E_iret (Or.inr ⟨rfl, rfl⟩) rfl (by cases hF; exact hr) dL_book_32
        · have hF := ite_f hF c15
          cases hF
  · rw [h5] at hM6
    generalize q1.2 = s4 at hF hM6
    refine E_callVX (na := 6) (As := [.int v1, .int v2, .int v3, .int v4, .int v5, .int v6]) (S := [.int (0 : Int32), .ref v7]) (kc := 0) (ks := 0) (ci := 9) rfl rfl hv0 (shape_ord hv0).1 cwV_RL_46 ⟨Nat.le_of_ble_eq_true rfl, Nat.le_of_ble_eq_true rfl⟩ hM6 rfl rfl rfl (Nat.le_of_ble_eq_true rfl) dL_book_13 ?_
    refine E_i2l dL_book_16 ?_
    obtain ⟨N8, h9, hF⟩ := bd_inv hF
    have h9 := aLen_inv h9
    obtain ⟨h10, hF⟩ := gd_inv hF
    refine E_last _ h9 (shape_ord h9).1 h10 dL_book_17 ?_
    obtain ⟨m11, e12, hF⟩ := nx_inv hF
    refine E_mem e12 ?_
    refine E_goto (tgt := 33) rfl dL_book_18 ?_
    refine E_iconst (v := (0 : Int32)) rfl dL_book_33 ?_
    exact E_iret (Or.inr ⟨rfl, rfl⟩) rfl (by cases hF; exact hr) dL_book_34
set_option maxHeartbeats 4000000 in
set_option maxRecDepth 100000 in
theorem T_L_append {l : Launch} (hfl : l.stackTraces = false) (fl : Nat) (v0 : Nat) (v1 : Int32) (s : Mem) (hv0 : shape v0 = some (.inl 9)) (ρ : (Int32 × Mem)) (hF : F_L_append fl v0 v1 s = some ρ) : MetX l X_L_append NF s [.ref v0, .int v1] (.inr (some (.int ρ.1)), NF, ρ.2) := by
  unfold F_L_append at hF
  obtain ⟨r, hr⟩ : ∃ r : Rs, r = (.inr (some (.int ρ.1)), NF, ρ.2) := ⟨_, rfl⟩
  rw [← hr]
  refine metH_of_E rfl (by decide) (by decide +kernel) hfl rfl (Nat.le_of_ble_eq_true rfl) ?_
  show E l X_L_append r false NF s 1 6 0 [(0, .ref v0), (1, .int v1)] []
  refine E_aload_n (j := 0) (i := 0) (q := 0) rfl rfl dL_append_0 ?_
  refine E_iload_n (j := 1) (i := 1) (q := 1) rfl rfl dL_append_1 ?_
  obtain ⟨q1, h2, hF⟩ := bd_inv hF
  have hM5 := T_X7_append hfl fl _ _ _ hv0 _ h2
  rcases xc_inv hF with ⟨e6, h4, hF⟩ | ⟨u9, h4, hF⟩
  · rw [h4] at hM5
    by_cases c7 : e6 = 2
    · have hF := ite_t hF c7
      subst c7
      refine E_callVX_c_n (i9 := 2) (na := 1) (As := [.int v1]) (S := []) (kc := 0) (ks := 0) (ci := 9) rfl rfl hv0 (shape_ord hv0).1 cwV_RL_52 [] (0, 5, 8, 15) [] rfl ⟨Nat.le_of_ble_eq_true rfl, Nat.le_of_ble_eq_true rfl⟩ (by decide) wT504 wN5 (by intro z9 hz9; cases hz9) (j9 := 2) rfl (Nat.le_of_ble_eq_true rfl) ⟨Nat.le_of_ble_eq_true rfl, Nat.le_of_ble_eq_true rfl⟩ hM5 rfl rfl (Nat.le_of_ble_eq_true rfl) dL_append_2 dL_append_8 ?_
      refine E_iconst (v := (1 : Int32)) rfl dL_append_9 ?_
      exact E_iret (Or.inr ⟨rfl, rfl⟩) rfl (by cases hF; exact hr) dL_append_10
    · have hF := ite_f hF c7
      cases hF
  · rw [h4] at hM5
    generalize q1.2 = s3 at hF hM5
    refine E_callVX (na := 1) (As := [.int v1]) (S := []) (kc := 0) (ks := 0) (ci := 9) rfl rfl hv0 (shape_ord hv0).1 cwV_RL_52 ⟨Nat.le_of_ble_eq_true rfl, Nat.le_of_ble_eq_true rfl⟩ hM5 rfl rfl rfl (Nat.le_of_ble_eq_true rfl) dL_append_2 ?_
    refine E_goto (tgt := 11) rfl dL_append_5 ?_
    refine E_iconst (v := (0 : Int32)) rfl dL_append_11 ?_
    exact E_iret (Or.inr ⟨rfl, rfl⟩) rfl (by cases hF; exact hr) dL_append_12
set_option maxHeartbeats 4000000 in
set_option maxRecDepth 100000 in
theorem T_L_readBooking {l : Launch} (hfl : l.stackTraces = false) (fl : Nat) (v0 : Nat) (v1 : Nat) (s : Mem) (hv0 : shape v0 = some (.inl 9)) (ρ : (Int32 × Mem)) (hF : F_L_readBooking fl v0 v1 s = some ρ) : MetX l X_L_readBooking NF s [.ref v0, .ref v1] (.inr (some (.int ρ.1)), NF, ρ.2) := by
  unfold F_L_readBooking at hF
  obtain ⟨r, hr⟩ : ∃ r : Rs, r = (.inr (some (.int ρ.1)), NF, ρ.2) := ⟨_, rfl⟩
  rw [← hr]
  refine metH_of_E rfl (by decide) (by decide +kernel) hfl rfl (Nat.le_of_ble_eq_true rfl) ?_
  show E l X_L_readBooking r false NF s 1 6 0 [(0, .ref v0), (1, .ref v1)] []
  refine E_aload_n (j := 1) (i := 1) (q := 1) rfl rfl dL_readBooking_0 ?_
  refine E_iconst (v := (0 : Int32)) rfl dL_readBooking_1 ?_
  refine E_aload_n (j := 0) (i := 0) (q := 0) rfl rfl dL_readBooking_2 ?_
  obtain ⟨q1, h2, hF⟩ := bd_inv hF
  have hM6 := T_X7_readBooking hfl fl _ _ hv0 _ h2
  rcases xc_inv hF with ⟨e7, h5, hF⟩ | ⟨x3, h5, hF⟩
  · rw [h5] at hM6
    by_cases c13 : e7 = 1
    · have hF := ite_t hF c13
      subst c13
      refine E_callVX_c_n (i9 := 2) (na := 0) (As := []) (S := [.int (0 : Int32), .ref v1]) (kc := 0) (ks := 0) (ci := 9) rfl rfl hv0 (shape_ord hv0).1 cwV_RL_56 [] (0, 8, 11, 13) [(0, 8, 14, 15), (0, 8, 17, 50)] rfl ⟨Nat.le_of_ble_eq_true rfl, Nat.le_of_ble_eq_true rfl⟩ (by decide) wT503 wN4 (by intro z9 hz9; cases hz9) (j9 := 2) rfl (Nat.le_of_ble_eq_true rfl) ⟨Nat.le_of_ble_eq_true rfl, Nat.le_of_ble_eq_true rfl⟩ hM6 rfl rfl (Nat.le_of_ble_eq_true rfl) dL_readBooking_3 dL_readBooking_11 ?_
      refine E_iconst (v := (1 : Int32)) rfl dL_readBooking_12 ?_
      exact E_iret (Or.inr ⟨rfl, rfl⟩) rfl (by cases hF; exact hr) dL_readBooking_13
    · have hF := ite_f hF c13
      by_cases c14 : e7 = 2
      · have hF := ite_t hF c14
        subst c14
        refine E_callVX_c_n (i9 := 2) (na := 0) (As := []) (S := [.int (0 : Int32), .ref v1]) (kc := 0) (ks := 0) (ci := 9) rfl rfl hv0 (shape_ord hv0).1 cwV_RL_56 [(0, 8, 11, 13)] (0, 8, 14, 15) [(0, 8, 17, 50)] rfl ⟨Nat.le_of_ble_eq_true rfl, Nat.le_of_ble_eq_true rfl⟩ (by decide) wT504 wN5 (by intro z9 hz9; simp only [List.mem_cons, List.not_mem_nil, or_false] at hz9; rcases hz9 with rfl <;> first | exact ⟨by decide, _, wT503, by decide +kernel⟩) (j9 := 2) rfl (Nat.le_of_ble_eq_true rfl) ⟨Nat.le_of_ble_eq_true rfl, Nat.le_of_ble_eq_true rfl⟩ hM6 rfl rfl (Nat.le_of_ble_eq_true rfl) dL_readBooking_3 dL_readBooking_14 ?_
        refine E_iconst (v := (2 : Int32)) rfl dL_readBooking_15 ?_
        exact E_iret (Or.inr ⟨rfl, rfl⟩) rfl (by cases hF; exact hr) dL_readBooking_16
      · have hF := ite_f hF c14
        by_cases c15 : e7 = 5
        · have hF := ite_t hF c15
          subst c15
          refine E_callVX_c_n (i9 := 2) (na := 0) (As := []) (S := [.int (0 : Int32), .ref v1]) (kc := 0) (ks := 0) (ci := 9) rfl rfl hv0 (shape_ord hv0).1 cwV_RL_56 [(0, 8, 11, 13), (0, 8, 14, 15)] (0, 8, 17, 50) [] rfl ⟨Nat.le_of_ble_eq_true rfl, Nat.le_of_ble_eq_true rfl⟩ (by decide) wT539 wN7 (by intro z9 hz9; simp only [List.mem_cons, List.not_mem_nil, or_false] at hz9; rcases hz9 with rfl | rfl <;> first | exact ⟨by decide, _, wT503, by decide +kernel⟩ | exact ⟨by decide, _, wT504, by decide +kernel⟩) (j9 := 2) rfl (Nat.le_of_ble_eq_true rfl) ⟨Nat.le_of_ble_eq_true rfl, Nat.le_of_ble_eq_true rfl⟩ hM6 rfl rfl (Nat.le_of_ble_eq_true rfl) dL_readBooking_3 dL_readBooking_17 ?_
          refine E_iconst (v := (3 : Int32)) rfl dL_readBooking_18 ?_
          exact E_iret (Or.inr ⟨rfl, rfl⟩) rfl (by cases hF; exact hr) dL_readBooking_19
        · have hF := ite_f hF c15
          cases hF
  · rw [h5] at hM6
    generalize q1.2 = s4 at hF hM6
    refine E_callVX (na := 0) (As := []) (S := [.int (0 : Int32), .ref v1]) (kc := 0) (ks := 0) (ci := 9) rfl rfl hv0 (shape_ord hv0).1 cwV_RL_56 ⟨Nat.le_of_ble_eq_true rfl, Nat.le_of_ble_eq_true rfl⟩ hM6 rfl rfl rfl (Nat.le_of_ble_eq_true rfl) dL_readBooking_3 ?_
    refine E_i2l dL_readBooking_6 ?_
    obtain ⟨N8, h9, hF⟩ := bd_inv hF
    have h9 := aLen_inv h9
    obtain ⟨h10, hF⟩ := gd_inv hF
    refine E_last _ h9 (shape_ord h9).1 h10 dL_readBooking_7 ?_
    obtain ⟨m11, e12, hF⟩ := nx_inv hF
    refine E_mem e12 ?_
    refine E_goto (tgt := 20) rfl dL_readBooking_8 ?_
    refine E_iconst (v := (0 : Int32)) rfl dL_readBooking_20 ?_
    exact E_iret (Or.inr ⟨rfl, rfl⟩) rfl (by cases hF; exact hr) dL_readBooking_21
set_option maxHeartbeats 4000000 in
set_option maxRecDepth 100000 in
theorem T_L_refusal {l : Launch} (hfl : l.stackTraces = false) (fl : Nat) (v0 : Nat) (v1 : Nat) (s : Mem) (hv0 : shape v0 = some (.inl 9)) (ρ : (Int32 × Mem)) (hF : F_L_refusal fl v0 v1 s = some ρ) : MetX l X_L_refusal NF s [.ref v0, .ref v1] (.inr (some (.int ρ.1)), NF, ρ.2) := by
  unfold F_L_refusal at hF
  obtain ⟨r, hr⟩ : ∃ r : Rs, r = (.inr (some (.int ρ.1)), NF, ρ.2) := ⟨_, rfl⟩
  rw [← hr]
  refine metH_of_E rfl (by decide) (by decide +kernel) hfl rfl (Nat.le_of_ble_eq_true rfl) ?_
  show E l X_L_refusal r false NF s 1 6 0 [(0, .ref v0), (1, .ref v1)] []
  refine E_aload_n (j := 1) (i := 1) (q := 1) rfl rfl dL_refusal_0 ?_
  refine E_iconst (v := (0 : Int32)) rfl dL_refusal_1 ?_
  refine E_aload_n (j := 0) (i := 0) (q := 0) rfl rfl dL_refusal_2 ?_
  obtain ⟨q1, h2, hF⟩ := bd_inv hF
  have hM6 := T_X7_refusal hfl fl _ _ hv0 _ h2
  rcases xc_inv hF with ⟨e7, h5, hF⟩ | ⟨x3, h5, hF⟩
  · rw [h5] at hM6
    by_cases c13 : e7 = 6
    · have hF := ite_t hF c13
      subst c13
      refine E_callVX_c_n (i9 := 2) (na := 0) (As := []) (S := [.int (0 : Int32), .ref v1]) (kc := 0) (ks := 0) (ci := 9) rfl rfl hv0 (shape_ord hv0).1 cwV_RL_60 [] (0, 8, 11, 63) [] rfl ⟨Nat.le_of_ble_eq_true rfl, Nat.le_of_ble_eq_true rfl⟩ (by decide) wT552 wN8 (by intro z9 hz9; cases hz9) (j9 := 2) rfl (Nat.le_of_ble_eq_true rfl) ⟨Nat.le_of_ble_eq_true rfl, Nat.le_of_ble_eq_true rfl⟩ hM6 rfl rfl (Nat.le_of_ble_eq_true rfl) dL_refusal_3 dL_refusal_11 ?_
      refine E_iconst (v := (1 : Int32)) rfl dL_refusal_12 ?_
      exact E_iret (Or.inr ⟨rfl, rfl⟩) rfl (by cases hF; exact hr) dL_refusal_13
    · have hF := ite_f hF c13
      cases hF
  · rw [h5] at hM6
    generalize q1.2 = s4 at hF hM6
    refine E_callVX (na := 0) (As := []) (S := [.int (0 : Int32), .ref v1]) (kc := 0) (ks := 0) (ci := 9) rfl rfl hv0 (shape_ord hv0).1 cwV_RL_60 ⟨Nat.le_of_ble_eq_true rfl, Nat.le_of_ble_eq_true rfl⟩ hM6 rfl rfl rfl (Nat.le_of_ble_eq_true rfl) dL_refusal_3 ?_
    refine E_i2l dL_refusal_6 ?_
    obtain ⟨N8, h9, hF⟩ := bd_inv hF
    have h9 := aLen_inv h9
    obtain ⟨h10, hF⟩ := gd_inv hF
    refine E_last _ h9 (shape_ord h9).1 h10 dL_refusal_7 ?_
    obtain ⟨m11, e12, hF⟩ := nx_inv hF
    refine E_mem e12 ?_
    refine E_goto (tgt := 14) rfl dL_refusal_8 ?_
    refine E_iconst (v := (0 : Int32)) rfl dL_refusal_14 ?_
    exact E_iret (Or.inr ⟨rfl, rfl⟩) rfl (by cases hF; exact hr) dL_refusal_15
set_option maxHeartbeats 4000000 in
set_option maxRecDepth 100000 in
theorem T_L_party {l : Launch} (hfl : l.stackTraces = false) (fl : Nat) (v0 : Nat) (v1 : Int32) (v2 : Int32) (v3 : Nat) (s : Mem) (hv0 : shape v0 = some (.inl 9)) (ρ : (Int32 × Mem)) (hF : F_L_party fl v0 v1 v2 v3 s = some ρ) : MetX l X_L_party NF s [.ref v0, .int v1, .int v2, .ref v3] (.inr (some (.int ρ.1)), NF, ρ.2) := by
  unfold F_L_party at hF
  obtain ⟨r, hr⟩ : ∃ r : Rs, r = (.inr (some (.int ρ.1)), NF, ρ.2) := ⟨_, rfl⟩
  rw [← hr]
  refine metH_of_E rfl (by decide) (by decide +kernel) hfl rfl (Nat.le_of_ble_eq_true rfl) ?_
  show E l X_L_party r false NF s 2 12 0 [(0, .ref v0), (1, .int v1), (2, .int v2), (3, .ref v3)] []
  refine E_aload_n (j := 3) (i := 3) (q := 3) rfl rfl dL_party_0 ?_
  refine E_iconst (v := (0 : Int32)) rfl dL_party_1 ?_
  refine E_aload_n (j := 0) (i := 0) (q := 0) rfl rfl dL_party_2 ?_
  refine E_iload_n (j := 1) (i := 1) (q := 1) rfl rfl dL_party_3 ?_
  refine E_iload_n (j := 2) (i := 2) (q := 2) rfl rfl dL_party_4 ?_
  obtain ⟨q1, h2, hF⟩ := bd_inv hF
  have hM6 := T_X7_party hfl fl _ _ _ _ hv0 _ h2
  rcases xc_inv hF with ⟨e7, h5, hF⟩ | ⟨x3, h5, hF⟩
  · rw [h5] at hM6
    by_cases c13 : e7 = 3
    · have hF := ite_t hF c13
      subst c13
      refine E_callVX_c (i9 := 4) (na := 2) (As := [.int v1, .int v2]) (S := [.int (0 : Int32), .ref v3]) (kc := 0) (ks := 0) (ci := 9) rfl rfl hv0 (shape_ord hv0).1 cwV_RL_65 [] (0, 10, 13, 21) [(0, 10, 17, 13)] rfl ⟨Nat.le_of_ble_eq_true rfl, Nat.le_of_ble_eq_true rfl⟩ (by decide) wT509 wN6 (by intro z9 hz9; cases hz9) (Nat.le_of_ble_eq_true rfl) ⟨Nat.le_of_ble_eq_true rfl, Nat.le_of_ble_eq_true rfl⟩ hM6 rfl rfl (Nat.le_of_ble_eq_true rfl) dL_party_5 dL_party_13 ?_
      refine E_iconst (v := (1 : Int32)) rfl dL_party_15 ?_
      exact E_iret (Or.inr ⟨rfl, rfl⟩) rfl (by cases hF; exact hr) dL_party_16
    · have hF := ite_f hF c13
      by_cases c14 : e7 = 1
      · have hF := ite_t hF c14
        subst c14
        refine E_callVX_c (i9 := 4) (na := 2) (As := [.int v1, .int v2]) (S := [.int (0 : Int32), .ref v3]) (kc := 0) (ks := 0) (ci := 9) rfl rfl hv0 (shape_ord hv0).1 cwV_RL_65 [(0, 10, 13, 21)] (0, 10, 17, 13) [] rfl ⟨Nat.le_of_ble_eq_true rfl, Nat.le_of_ble_eq_true rfl⟩ (by decide) wT503 wN4 (by intro z9 hz9; simp only [List.mem_cons, List.not_mem_nil, or_false] at hz9; rcases hz9 with rfl <;> first | exact ⟨by decide, _, wT509, by decide +kernel⟩) (Nat.le_of_ble_eq_true rfl) ⟨Nat.le_of_ble_eq_true rfl, Nat.le_of_ble_eq_true rfl⟩ hM6 rfl rfl (Nat.le_of_ble_eq_true rfl) dL_party_5 dL_party_17 ?_
        refine E_iconst (v := (2 : Int32)) rfl dL_party_19 ?_
        exact E_iret (Or.inr ⟨rfl, rfl⟩) rfl (by cases hF; exact hr) dL_party_20
      · have hF := ite_f hF c14
        cases hF
  · rw [h5] at hM6
    generalize q1.2 = s4 at hF hM6
    refine E_callVX (na := 2) (As := [.int v1, .int v2]) (S := [.int (0 : Int32), .ref v3]) (kc := 0) (ks := 0) (ci := 9) rfl rfl hv0 (shape_ord hv0).1 cwV_RL_65 ⟨Nat.le_of_ble_eq_true rfl, Nat.le_of_ble_eq_true rfl⟩ hM6 rfl rfl rfl (Nat.le_of_ble_eq_true rfl) dL_party_5 ?_
    refine E_i2l dL_party_8 ?_
    obtain ⟨N8, h9, hF⟩ := bd_inv hF
    have h9 := aLen_inv h9
    obtain ⟨h10, hF⟩ := gd_inv hF
    refine E_last _ h9 (shape_ord h9).1 h10 dL_party_9 ?_
    obtain ⟨m11, e12, hF⟩ := nx_inv hF
    refine E_mem e12 ?_
    refine E_goto (tgt := 21) rfl dL_party_10 ?_
    refine E_iconst (v := (0 : Int32)) rfl dL_party_21 ?_
    exact E_iret (Or.inr ⟨rfl, rfl⟩) rfl (by cases hF; exact hr) dL_party_22
set_option maxHeartbeats 4000000 in
set_option maxRecDepth 100000 in
theorem T_L_moveOf {l : Launch} (hfl : l.stackTraces = false) (fl : Nat) (v0 : Nat) (v1 : Int32) (v2 : Int32) (v3 : Nat) (s : Mem) (hv0 : shape v0 = some (.inl 9)) (ρ : (Int32 × Mem)) (hF : F_L_moveOf fl v0 v1 v2 v3 s = some ρ) : MetX l X_L_moveOf NF s [.ref v0, .int v1, .int v2, .ref v3] (.inr (some (.int ρ.1)), NF, ρ.2) := by
  unfold F_L_moveOf at hF
  obtain ⟨r, hr⟩ : ∃ r : Rs, r = (.inr (some (.int ρ.1)), NF, ρ.2) := ⟨_, rfl⟩
  rw [← hr]
  refine metH_of_E rfl (by decide) (by decide +kernel) hfl rfl (Nat.le_of_ble_eq_true rfl) ?_
  show E l X_L_moveOf r false NF s 1 6 0 [(0, .ref v0), (1, .int v1), (2, .int v2), (3, .ref v3)] []
  refine E_aload_n (j := 3) (i := 3) (q := 3) rfl rfl dL_moveOf_0 ?_
  refine E_iconst (v := (0 : Int32)) rfl dL_moveOf_1 ?_
  refine E_aload_n (j := 0) (i := 0) (q := 0) rfl rfl dL_moveOf_2 ?_
  refine E_iload_n (j := 1) (i := 1) (q := 1) rfl rfl dL_moveOf_3 ?_
  refine E_iload_n (j := 2) (i := 2) (q := 2) rfl rfl dL_moveOf_4 ?_
  obtain ⟨q1, h2, hF⟩ := bd_inv hF
  have hM6 := T_X7_moveOf hfl fl _ _ _ _ hv0 _ h2
  rcases xc_inv hF with ⟨e7, h5, hF⟩ | ⟨x3, h5, hF⟩
  · rw [h5] at hM6
    by_cases c13 : e7 = 6
    · have hF := ite_t hF c13
      subst c13
      refine E_callVX_c (i9 := 4) (na := 2) (As := [.int v1, .int v2]) (S := [.int (0 : Int32), .ref v3]) (kc := 0) (ks := 0) (ci := 9) rfl rfl hv0 (shape_ord hv0).1 cwV_RL_68 [] (0, 10, 13, 63) [(0, 10, 17, 13)] rfl ⟨Nat.le_of_ble_eq_true rfl, Nat.le_of_ble_eq_true rfl⟩ (by decide) wT552 wN8 (by intro z9 hz9; cases hz9) (Nat.le_of_ble_eq_true rfl) ⟨Nat.le_of_ble_eq_true rfl, Nat.le_of_ble_eq_true rfl⟩ hM6 rfl rfl (Nat.le_of_ble_eq_true rfl) dL_moveOf_5 dL_moveOf_13 ?_
      refine E_iconst (v := (1 : Int32)) rfl dL_moveOf_15 ?_
      exact E_iret (Or.inr ⟨rfl, rfl⟩) rfl (by cases hF; exact hr) dL_moveOf_16
    · have hF := ite_f hF c13
      by_cases c14 : e7 = 1
      · have hF := ite_t hF c14
        subst c14
        refine E_callVX_c (i9 := 4) (na := 2) (As := [.int v1, .int v2]) (S := [.int (0 : Int32), .ref v3]) (kc := 0) (ks := 0) (ci := 9) rfl rfl hv0 (shape_ord hv0).1 cwV_RL_68 [(0, 10, 13, 63)] (0, 10, 17, 13) [] rfl ⟨Nat.le_of_ble_eq_true rfl, Nat.le_of_ble_eq_true rfl⟩ (by decide) wT503 wN4 (by intro z9 hz9; simp only [List.mem_cons, List.not_mem_nil, or_false] at hz9; rcases hz9 with rfl <;> first | exact ⟨by decide, _, wT552, by decide +kernel⟩) (Nat.le_of_ble_eq_true rfl) ⟨Nat.le_of_ble_eq_true rfl, Nat.le_of_ble_eq_true rfl⟩ hM6 rfl rfl (Nat.le_of_ble_eq_true rfl) dL_moveOf_5 dL_moveOf_17 ?_
        refine E_iconst (v := (2 : Int32)) rfl dL_moveOf_19 ?_
        exact E_iret (Or.inr ⟨rfl, rfl⟩) rfl (by cases hF; exact hr) dL_moveOf_20
      · have hF := ite_f hF c14
        cases hF
  · rw [h5] at hM6
    generalize q1.2 = s4 at hF hM6
    refine E_callVX (na := 2) (As := [.int v1, .int v2]) (S := [.int (0 : Int32), .ref v3]) (kc := 0) (ks := 0) (ci := 9) rfl rfl hv0 (shape_ord hv0).1 cwV_RL_68 ⟨Nat.le_of_ble_eq_true rfl, Nat.le_of_ble_eq_true rfl⟩ hM6 rfl rfl rfl (Nat.le_of_ble_eq_true rfl) dL_moveOf_5 ?_
    refine E_i2l dL_moveOf_8 ?_
    obtain ⟨N8, h9, hF⟩ := bd_inv hF
    have h9 := aLen_inv h9
    obtain ⟨h10, hF⟩ := gd_inv hF
    refine E_last _ h9 (shape_ord h9).1 h10 dL_moveOf_9 ?_
    obtain ⟨m11, e12, hF⟩ := nx_inv hF
    refine E_mem e12 ?_
    refine E_goto (tgt := 21) rfl dL_moveOf_10 ?_
    refine E_iconst (v := (0 : Int32)) rfl dL_moveOf_21 ?_
    exact E_iret (Or.inr ⟨rfl, rfl⟩) rfl (by cases hF; exact hr) dL_moveOf_22
set_option maxHeartbeats 4000000 in
set_option maxRecDepth 100000 in
theorem T_L_move {l : Launch} (hfl : l.stackTraces = false) (fl : Nat) (v0 : Nat) (v1 : Int32) (v2 : Int32) (v3 : Nat) (s : Mem) (hv0 : shape v0 = some (.inl 9)) (ρ : (Int32 × Mem)) (hF : F_L_move fl v0 v1 v2 v3 s = some ρ) : MetX l X_L_move NF s [.ref v0, .int v1, .int v2, .ref v3] (.inr (some (.int ρ.1)), NF, ρ.2) := by
  unfold F_L_move at hF
  obtain ⟨r, hr⟩ : ∃ r : Rs, r = (.inr (some (.int ρ.1)), NF, ρ.2) := ⟨_, rfl⟩
  rw [← hr]
  refine metH_of_E rfl (by decide) (by decide +kernel) hfl rfl (Nat.le_of_ble_eq_true rfl) ?_
  show E l X_L_move r false NF s 3 18 0 [(0, .ref v0), (1, .int v1), (2, .int v2), (3, .ref v3)] []
  refine E_aload_n (j := 3) (i := 3) (q := 3) rfl rfl dL_move_0 ?_
  refine E_iconst (v := (0 : Int32)) rfl dL_move_1 ?_
  refine E_aload_n (j := 0) (i := 0) (q := 0) rfl rfl dL_move_2 ?_
  refine E_iload_n (j := 1) (i := 1) (q := 1) rfl rfl dL_move_3 ?_
  refine E_iload_n (j := 2) (i := 2) (q := 2) rfl rfl dL_move_4 ?_
  obtain ⟨q1, h2, hF⟩ := bd_inv hF
  have hM6 := T_X7_move hfl fl _ _ _ _ hv0 _ h2
  rcases xc_inv hF with ⟨e7, h5, hF⟩ | ⟨x3, h5, hF⟩
  · rw [h5] at hM6
    by_cases c13 : e7 = 3
    · have hF := ite_t hF c13
      subst c13
      refine E_callVX_c (i9 := 4) (na := 2) (As := [.int v1, .int v2]) (S := [.int (0 : Int32), .ref v3]) (kc := 0) (ks := 0) (ci := 9) rfl rfl hv0 (shape_ord hv0).1 cwV_RL_71 [] (0, 10, 13, 21) [(0, 10, 17, 15), (0, 10, 21, 50)] rfl ⟨Nat.le_of_ble_eq_true rfl, Nat.le_of_ble_eq_true rfl⟩ (by decide) wT509 wN6 (by intro z9 hz9; cases hz9) (Nat.le_of_ble_eq_true rfl) ⟨Nat.le_of_ble_eq_true rfl, Nat.le_of_ble_eq_true rfl⟩ hM6 rfl rfl (Nat.le_of_ble_eq_true rfl) dL_move_5 dL_move_13 ?_
      refine E_iconst (v := (1 : Int32)) rfl dL_move_15 ?_
      exact E_iret (Or.inr ⟨rfl, rfl⟩) rfl (by cases hF; exact hr) dL_move_16
    · have hF := ite_f hF c13
      by_cases c14 : e7 = 2
      · have hF := ite_t hF c14
        subst c14
        refine E_callVX_c (i9 := 4) (na := 2) (As := [.int v1, .int v2]) (S := [.int (0 : Int32), .ref v3]) (kc := 0) (ks := 0) (ci := 9) rfl rfl hv0 (shape_ord hv0).1 cwV_RL_71 [(0, 10, 13, 21)] (0, 10, 17, 15) [(0, 10, 21, 50)] rfl ⟨Nat.le_of_ble_eq_true rfl, Nat.le_of_ble_eq_true rfl⟩ (by decide) wT504 wN5 (by intro z9 hz9; simp only [List.mem_cons, List.not_mem_nil, or_false] at hz9; rcases hz9 with rfl <;> first | exact ⟨by decide, _, wT509, by decide +kernel⟩) (Nat.le_of_ble_eq_true rfl) ⟨Nat.le_of_ble_eq_true rfl, Nat.le_of_ble_eq_true rfl⟩ hM6 rfl rfl (Nat.le_of_ble_eq_true rfl) dL_move_5 dL_move_17 ?_
        refine E_iconst (v := (2 : Int32)) rfl dL_move_19 ?_
        exact E_iret (Or.inr ⟨rfl, rfl⟩) rfl (by cases hF; exact hr) dL_move_20
      · have hF := ite_f hF c14
        by_cases c15 : e7 = 5
        · have hF := ite_t hF c15
          subst c15
          refine E_callVX_c (i9 := 4) (na := 2) (As := [.int v1, .int v2]) (S := [.int (0 : Int32), .ref v3]) (kc := 0) (ks := 0) (ci := 9) rfl rfl hv0 (shape_ord hv0).1 cwV_RL_71 [(0, 10, 13, 21), (0, 10, 17, 15)] (0, 10, 21, 50) [] rfl ⟨Nat.le_of_ble_eq_true rfl, Nat.le_of_ble_eq_true rfl⟩ (by decide) wT539 wN7 (by intro z9 hz9; simp only [List.mem_cons, List.not_mem_nil, or_false] at hz9; rcases hz9 with rfl | rfl <;> first | exact ⟨by decide, _, wT509, by decide +kernel⟩ | exact ⟨by decide, _, wT504, by decide +kernel⟩) (Nat.le_of_ble_eq_true rfl) ⟨Nat.le_of_ble_eq_true rfl, Nat.le_of_ble_eq_true rfl⟩ hM6 rfl rfl (Nat.le_of_ble_eq_true rfl) dL_move_5 dL_move_21 ?_
          refine E_iconst (v := (3 : Int32)) rfl dL_move_23 ?_
          exact E_iret (Or.inr ⟨rfl, rfl⟩) rfl (by cases hF; exact hr) dL_move_24
        · have hF := ite_f hF c15
          cases hF
  · rw [h5] at hM6
    generalize q1.2 = s4 at hF hM6
    refine E_callVX (na := 2) (As := [.int v1, .int v2]) (S := [.int (0 : Int32), .ref v3]) (kc := 0) (ks := 0) (ci := 9) rfl rfl hv0 (shape_ord hv0).1 cwV_RL_71 ⟨Nat.le_of_ble_eq_true rfl, Nat.le_of_ble_eq_true rfl⟩ hM6 rfl rfl rfl (Nat.le_of_ble_eq_true rfl) dL_move_5 ?_
    refine E_i2l dL_move_8 ?_
    obtain ⟨N8, h9, hF⟩ := bd_inv hF
    have h9 := aLen_inv h9
    obtain ⟨h10, hF⟩ := gd_inv hF
    refine E_last _ h9 (shape_ord h9).1 h10 dL_move_9 ?_
    obtain ⟨m11, e12, hF⟩ := nx_inv hF
    refine E_mem e12 ?_
    refine E_goto (tgt := 25) rfl dL_move_10 ?_
    refine E_iconst (v := (0 : Int32)) rfl dL_move_25 ?_
    exact E_iret (Or.inr ⟨rfl, rfl⟩) rfl (by cases hF; exact hr) dL_move_26
set_option maxHeartbeats 4000000 in
set_option maxRecDepth 100000 in
theorem T_L_cancel {l : Launch} (hfl : l.stackTraces = false) (fl : Nat) (v0 : Nat) (v1 : Int32) (v2 : Nat) (s : Mem) (hv0 : shape v0 = some (.inl 9)) (ρ : (Int32 × Mem)) (hF : F_L_cancel fl v0 v1 v2 s = some ρ) : MetX l X_L_cancel NF s [.ref v0, .int v1, .ref v2] (.inr (some (.int ρ.1)), NF, ρ.2) := by
  unfold F_L_cancel at hF
  obtain ⟨r, hr⟩ : ∃ r : Rs, r = (.inr (some (.int ρ.1)), NF, ρ.2) := ⟨_, rfl⟩
  rw [← hr]
  refine metH_of_E rfl (by decide) (by decide +kernel) hfl rfl (Nat.le_of_ble_eq_true rfl) ?_
  show E l X_L_cancel r false NF s 2 12 0 [(0, .ref v0), (1, .int v1), (2, .ref v2)] []
  refine E_aload_n (j := 2) (i := 2) (q := 2) rfl rfl dL_cancel_0 ?_
  refine E_iconst (v := (0 : Int32)) rfl dL_cancel_1 ?_
  refine E_aload_n (j := 0) (i := 0) (q := 0) rfl rfl dL_cancel_2 ?_
  refine E_iload_n (j := 1) (i := 1) (q := 1) rfl rfl dL_cancel_3 ?_
  obtain ⟨q1, h2, hF⟩ := bd_inv hF
  have hM6 := T_X7_cancel hfl fl _ _ _ hv0 _ h2
  rcases xc_inv hF with ⟨e7, h5, hF⟩ | ⟨x3, h5, hF⟩
  · rw [h5] at hM6
    by_cases c13 : e7 = 3
    · have hF := ite_t hF c13
      subst c13
      refine E_callVX_c_n (i9 := 3) (na := 1) (As := [.int v1]) (S := [.int (0 : Int32), .ref v2]) (kc := 0) (ks := 0) (ci := 9) rfl rfl hv0 (shape_ord hv0).1 cwV_RL_74 [] (0, 9, 12, 21) [(0, 9, 15, 15)] rfl ⟨Nat.le_of_ble_eq_true rfl, Nat.le_of_ble_eq_true rfl⟩ (by decide) wT509 wN6 (by intro z9 hz9; cases hz9) (j9 := 3) rfl (Nat.le_of_ble_eq_true rfl) ⟨Nat.le_of_ble_eq_true rfl, Nat.le_of_ble_eq_true rfl⟩ hM6 rfl rfl (Nat.le_of_ble_eq_true rfl) dL_cancel_4 dL_cancel_12 ?_
      refine E_iconst (v := (1 : Int32)) rfl dL_cancel_13 ?_
      exact E_iret (Or.inr ⟨rfl, rfl⟩) rfl (by cases hF; exact hr) dL_cancel_14
    · have hF := ite_f hF c13
      by_cases c14 : e7 = 2
      · have hF := ite_t hF c14
        subst c14
        refine E_callVX_c_n (i9 := 3) (na := 1) (As := [.int v1]) (S := [.int (0 : Int32), .ref v2]) (kc := 0) (ks := 0) (ci := 9) rfl rfl hv0 (shape_ord hv0).1 cwV_RL_74 [(0, 9, 12, 21)] (0, 9, 15, 15) [] rfl ⟨Nat.le_of_ble_eq_true rfl, Nat.le_of_ble_eq_true rfl⟩ (by decide) wT504 wN5 (by intro z9 hz9; simp only [List.mem_cons, List.not_mem_nil, or_false] at hz9; rcases hz9 with rfl <;> first | exact ⟨by decide, _, wT509, by decide +kernel⟩) (j9 := 3) rfl (Nat.le_of_ble_eq_true rfl) ⟨Nat.le_of_ble_eq_true rfl, Nat.le_of_ble_eq_true rfl⟩ hM6 rfl rfl (Nat.le_of_ble_eq_true rfl) dL_cancel_4 dL_cancel_15 ?_
        refine E_iconst (v := (2 : Int32)) rfl dL_cancel_16 ?_
        exact E_iret (Or.inr ⟨rfl, rfl⟩) rfl (by cases hF; exact hr) dL_cancel_17
      · have hF := ite_f hF c14
        cases hF
  · rw [h5] at hM6
    generalize q1.2 = s4 at hF hM6
    refine E_callVX (na := 1) (As := [.int v1]) (S := [.int (0 : Int32), .ref v2]) (kc := 0) (ks := 0) (ci := 9) rfl rfl hv0 (shape_ord hv0).1 cwV_RL_74 ⟨Nat.le_of_ble_eq_true rfl, Nat.le_of_ble_eq_true rfl⟩ hM6 rfl rfl rfl (Nat.le_of_ble_eq_true rfl) dL_cancel_4 ?_
    refine E_i2l dL_cancel_7 ?_
    obtain ⟨N8, h9, hF⟩ := bd_inv hF
    have h9 := aLen_inv h9
    obtain ⟨h10, hF⟩ := gd_inv hF
    refine E_last _ h9 (shape_ord h9).1 h10 dL_cancel_8 ?_
    obtain ⟨m11, e12, hF⟩ := nx_inv hF
    refine E_mem e12 ?_
    refine E_goto (tgt := 18) rfl dL_cancel_9 ?_
    refine E_iconst (v := (0 : Int32)) rfl dL_cancel_18 ?_
    exact E_iret (Or.inr ⟨rfl, rfl⟩) rfl (by cases hF; exact hr) dL_cancel_19
set_option maxHeartbeats 4000000 in
set_option maxRecDepth 100000 in
theorem T_L_advance {l : Launch} (hfl : l.stackTraces = false) (fl : Nat) (v0 : Nat) (v1 : Int32) (v2 : Nat) (s : Mem) (hv0 : shape v0 = some (.inl 9)) (ρ : (Int32 × Mem)) (hF : F_L_advance fl v0 v1 v2 s = some ρ) : MetX l X_L_advance NF s [.ref v0, .int v1, .ref v2] (.inr (some (.int ρ.1)), NF, ρ.2) := by
  unfold F_L_advance at hF
  obtain ⟨r, hr⟩ : ∃ r : Rs, r = (.inr (some (.int ρ.1)), NF, ρ.2) := ⟨_, rfl⟩
  rw [← hr]
  refine metH_of_E rfl (by decide) (by decide +kernel) hfl rfl (Nat.le_of_ble_eq_true rfl) ?_
  show E l X_L_advance r false NF s 1 6 0 [(0, .ref v0), (1, .int v1), (2, .ref v2)] []
  refine E_aload_n (j := 2) (i := 2) (q := 2) rfl rfl dL_advance_0 ?_
  refine E_iconst (v := (0 : Int32)) rfl dL_advance_1 ?_
  refine E_aload_n (j := 0) (i := 0) (q := 0) rfl rfl dL_advance_2 ?_
  refine E_iload_n (j := 1) (i := 1) (q := 1) rfl rfl dL_advance_3 ?_
  obtain ⟨q1, h2, hF⟩ := bd_inv hF
  have hM6 := T_X7_advance hfl fl _ _ _ hv0 _ h2
  rcases xc_inv hF with ⟨e7, h5, hF⟩ | ⟨x3, h5, hF⟩
  · rw [h5] at hM6
    by_cases c13 : e7 = 1
    · have hF := ite_t hF c13
      subst c13
      refine E_callVX_c_n (i9 := 3) (na := 1) (As := [.int v1]) (S := [.int (0 : Int32), .ref v2]) (kc := 0) (ks := 0) (ci := 9) rfl rfl hv0 (shape_ord hv0).1 cwV_RL_77 [] (0, 9, 12, 13) [] rfl ⟨Nat.le_of_ble_eq_true rfl, Nat.le_of_ble_eq_true rfl⟩ (by decide) wT503 wN4 (by intro z9 hz9; cases hz9) (j9 := 3) rfl (Nat.le_of_ble_eq_true rfl) ⟨Nat.le_of_ble_eq_true rfl, Nat.le_of_ble_eq_true rfl⟩ hM6 rfl rfl (Nat.le_of_ble_eq_true rfl) dL_advance_4 dL_advance_12 ?_
      refine E_iconst (v := (1 : Int32)) rfl dL_advance_13 ?_
      exact E_iret (Or.inr ⟨rfl, rfl⟩) rfl (by cases hF; exact hr) dL_advance_14
    · have hF := ite_f hF c13
      cases hF
  · rw [h5] at hM6
    generalize q1.2 = s4 at hF hM6
    refine E_callVX (na := 1) (As := [.int v1]) (S := [.int (0 : Int32), .ref v2]) (kc := 0) (ks := 0) (ci := 9) rfl rfl hv0 (shape_ord hv0).1 cwV_RL_77 ⟨Nat.le_of_ble_eq_true rfl, Nat.le_of_ble_eq_true rfl⟩ hM6 rfl rfl rfl (Nat.le_of_ble_eq_true rfl) dL_advance_4 ?_
    refine E_i2l dL_advance_7 ?_
    obtain ⟨N8, h9, hF⟩ := bd_inv hF
    have h9 := aLen_inv h9
    obtain ⟨h10, hF⟩ := gd_inv hF
    refine E_last _ h9 (shape_ord h9).1 h10 dL_advance_8 ?_
    obtain ⟨m11, e12, hF⟩ := nx_inv hF
    refine E_mem e12 ?_
    refine E_goto (tgt := 15) rfl dL_advance_9 ?_
    refine E_iconst (v := (0 : Int32)) rfl dL_advance_15 ?_
    exact E_iret (Or.inr ⟨rfl, rfl⟩) rfl (by cases hF; exact hr) dL_advance_16
set_option maxHeartbeats 4000000 in
set_option maxRecDepth 100000 in
theorem T_L_obstacle {l : Launch} (hfl : l.stackTraces = false) (fl : Nat) (v0 : Nat) (v1 : Int32) (v2 : Int32) (v3 : Nat) (s : Mem) (hv0 : shape v0 = some (.inl 9)) (ρ : (Int32 × Mem)) (hF : F_L_obstacle fl v0 v1 v2 v3 s = some ρ) : MetX l X_L_obstacle NF s [.ref v0, .int v1, .int v2, .ref v3] (.inr (some (.int ρ.1)), NF, ρ.2) := by
  unfold F_L_obstacle at hF
  obtain ⟨r, hr⟩ : ∃ r : Rs, r = (.inr (some (.int ρ.1)), NF, ρ.2) := ⟨_, rfl⟩
  rw [← hr]
  refine metH_of_E rfl (by decide) (by decide +kernel) hfl rfl (Nat.le_of_ble_eq_true rfl) ?_
  show E l X_L_obstacle r false NF s 2 12 0 [(0, .ref v0), (1, .int v1), (2, .int v2), (3, .ref v3)] []
  refine E_aload_n (j := 3) (i := 3) (q := 3) rfl rfl dL_obstacle_0 ?_
  refine E_iconst (v := (0 : Int32)) rfl dL_obstacle_1 ?_
  refine E_aload_n (j := 0) (i := 0) (q := 0) rfl rfl dL_obstacle_2 ?_
  refine E_iload_n (j := 1) (i := 1) (q := 1) rfl rfl dL_obstacle_3 ?_
  refine E_iload_n (j := 2) (i := 2) (q := 2) rfl rfl dL_obstacle_4 ?_
  obtain ⟨q1, h2, hF⟩ := bd_inv hF
  have hM6 := T_X7_obstacle hfl fl _ _ _ _ hv0 _ h2
  rcases xc_inv hF with ⟨e7, h5, hF⟩ | ⟨x3, h5, hF⟩
  · rw [h5] at hM6
    by_cases c13 : e7 = 3
    · have hF := ite_t hF c13
      subst c13
      refine E_callVX_c (i9 := 4) (na := 2) (As := [.int v1, .int v2]) (S := [.int (0 : Int32), .ref v3]) (kc := 0) (ks := 0) (ci := 9) rfl rfl hv0 (shape_ord hv0).1 cwV_RL_80 [] (0, 10, 13, 21) [] rfl ⟨Nat.le_of_ble_eq_true rfl, Nat.le_of_ble_eq_true rfl⟩ (by decide) wT509 wN6 (by intro z9 hz9; cases hz9) (Nat.le_of_ble_eq_true rfl) ⟨Nat.le_of_ble_eq_true rfl, Nat.le_of_ble_eq_true rfl⟩ hM6 rfl rfl (Nat.le_of_ble_eq_true rfl) dL_obstacle_5 dL_obstacle_13 ?_
      refine E_iconst (v := (1 : Int32)) rfl dL_obstacle_15 ?_
      exact E_iret (Or.inr ⟨rfl, rfl⟩) rfl (by cases hF; exact hr) dL_obstacle_16
    · have hF := ite_f hF c13
      cases hF
  · rw [h5] at hM6
    generalize q1.2 = s4 at hF hM6
    refine E_callVX (na := 2) (As := [.int v1, .int v2]) (S := [.int (0 : Int32), .ref v3]) (kc := 0) (ks := 0) (ci := 9) rfl rfl hv0 (shape_ord hv0).1 cwV_RL_80 ⟨Nat.le_of_ble_eq_true rfl, Nat.le_of_ble_eq_true rfl⟩ hM6 rfl rfl rfl (Nat.le_of_ble_eq_true rfl) dL_obstacle_5 ?_
    refine E_i2l dL_obstacle_8 ?_
    obtain ⟨N8, h9, hF⟩ := bd_inv hF
    have h9 := aLen_inv h9
    obtain ⟨h10, hF⟩ := gd_inv hF
    refine E_last _ h9 (shape_ord h9).1 h10 dL_obstacle_9 ?_
    obtain ⟨m11, e12, hF⟩ := nx_inv hF
    refine E_mem e12 ?_
    refine E_goto (tgt := 17) rfl dL_obstacle_10 ?_
    refine E_iconst (v := (0 : Int32)) rfl dL_obstacle_17 ?_
    exact E_iret (Or.inr ⟨rfl, rfl⟩) rfl (by cases hF; exact hr) dL_obstacle_18
set_option maxHeartbeats 4000000 in
set_option maxRecDepth 100000 in
theorem T_L_occupant {l : Launch} (hfl : l.stackTraces = false) (fl : Nat) (v0 : Nat) (v1 : Int32) (v2 : Int32) (v3 : Nat) (s : Mem) (hv0 : shape v0 = some (.inl 9)) (ρ : (Int32 × Mem)) (hF : F_L_occupant fl v0 v1 v2 v3 s = some ρ) : MetX l X_L_occupant NF s [.ref v0, .int v1, .int v2, .ref v3] (.inr (some (.int ρ.1)), NF, ρ.2) := by
  unfold F_L_occupant at hF
  obtain ⟨r, hr⟩ : ∃ r : Rs, r = (.inr (some (.int ρ.1)), NF, ρ.2) := ⟨_, rfl⟩
  rw [← hr]
  refine metH_of_E rfl (by decide) (by decide +kernel) hfl rfl (Nat.le_of_ble_eq_true rfl) ?_
  show E l X_L_occupant r false NF s 2 12 0 [(0, .ref v0), (1, .int v1), (2, .int v2), (3, .ref v3)] []
  refine E_aload_n (j := 3) (i := 3) (q := 3) rfl rfl dL_occupant_0 ?_
  refine E_iconst (v := (0 : Int32)) rfl dL_occupant_1 ?_
  refine E_aload_n (j := 0) (i := 0) (q := 0) rfl rfl dL_occupant_2 ?_
  refine E_iload_n (j := 1) (i := 1) (q := 1) rfl rfl dL_occupant_3 ?_
  refine E_iload_n (j := 2) (i := 2) (q := 2) rfl rfl dL_occupant_4 ?_
  obtain ⟨q1, h2, hF⟩ := bd_inv hF
  have hM6 := T_X7_occupant hfl fl _ _ _ _ hv0 _ h2
  rcases xc_inv hF with ⟨e7, h5, hF⟩ | ⟨x3, h5, hF⟩
  · rw [h5] at hM6
    by_cases c13 : e7 = 3
    · have hF := ite_t hF c13
      subst c13
      refine E_callVX_c (i9 := 4) (na := 2) (As := [.int v1, .int v2]) (S := [.int (0 : Int32), .ref v3]) (kc := 0) (ks := 0) (ci := 9) rfl rfl hv0 (shape_ord hv0).1 cwV_RL_83 [] (0, 10, 13, 21) [] rfl ⟨Nat.le_of_ble_eq_true rfl, Nat.le_of_ble_eq_true rfl⟩ (by decide) wT509 wN6 (by intro z9 hz9; cases hz9) (Nat.le_of_ble_eq_true rfl) ⟨Nat.le_of_ble_eq_true rfl, Nat.le_of_ble_eq_true rfl⟩ hM6 rfl rfl (Nat.le_of_ble_eq_true rfl) dL_occupant_5 dL_occupant_13 ?_
      refine E_iconst (v := (1 : Int32)) rfl dL_occupant_15 ?_
      exact E_iret (Or.inr ⟨rfl, rfl⟩) rfl (by cases hF; exact hr) dL_occupant_16
    · have hF := ite_f hF c13
      cases hF
  · rw [h5] at hM6
    generalize q1.2 = s4 at hF hM6
    refine E_callVX (na := 2) (As := [.int v1, .int v2]) (S := [.int (0 : Int32), .ref v3]) (kc := 0) (ks := 0) (ci := 9) rfl rfl hv0 (shape_ord hv0).1 cwV_RL_83 ⟨Nat.le_of_ble_eq_true rfl, Nat.le_of_ble_eq_true rfl⟩ hM6 rfl rfl rfl (Nat.le_of_ble_eq_true rfl) dL_occupant_5 ?_
    refine E_i2l dL_occupant_8 ?_
    obtain ⟨N8, h9, hF⟩ := bd_inv hF
    have h9 := aLen_inv h9
    obtain ⟨h10, hF⟩ := gd_inv hF
    refine E_last _ h9 (shape_ord h9).1 h10 dL_occupant_9 ?_
    obtain ⟨m11, e12, hF⟩ := nx_inv hF
    refine E_mem e12 ?_
    refine E_goto (tgt := 17) rfl dL_occupant_10 ?_
    refine E_iconst (v := (0 : Int32)) rfl dL_occupant_17 ?_
    exact E_iret (Or.inr ⟨rfl, rfl⟩) rfl (by cases hF; exact hr) dL_occupant_18
set_option maxHeartbeats 4000000 in
set_option maxRecDepth 100000 in
theorem T_L_busyNight {l : Launch} (hfl : l.stackTraces = false) (fl : Nat) (v0 : Nat) (v1 : Int32) (v2 : Int32) (v3 : Nat) (s : Mem) (hv0 : shape v0 = some (.inl 9)) (ρ : (Int32 × Mem)) (hF : F_L_busyNight fl v0 v1 v2 v3 s = some ρ) : MetX l X_L_busyNight NF s [.ref v0, .int v1, .int v2, .ref v3] (.inr (some (.int ρ.1)), NF, ρ.2) := by
  unfold F_L_busyNight at hF
  obtain ⟨r, hr⟩ : ∃ r : Rs, r = (.inr (some (.int ρ.1)), NF, ρ.2) := ⟨_, rfl⟩
  rw [← hr]
  refine metH_of_E rfl (by decide) (by decide +kernel) hfl rfl (Nat.le_of_ble_eq_true rfl) ?_
  show E l X_L_busyNight r false NF s 2 12 0 [(0, .ref v0), (1, .int v1), (2, .int v2), (3, .ref v3)] []
  refine E_aload_n (j := 3) (i := 3) (q := 3) rfl rfl dL_busyNight_0 ?_
  refine E_iconst (v := (0 : Int32)) rfl dL_busyNight_1 ?_
  refine E_aload_n (j := 0) (i := 0) (q := 0) rfl rfl dL_busyNight_2 ?_
  refine E_iload_n (j := 1) (i := 1) (q := 1) rfl rfl dL_busyNight_3 ?_
  refine E_iload_n (j := 2) (i := 2) (q := 2) rfl rfl dL_busyNight_4 ?_
  obtain ⟨q1, h2, hF⟩ := bd_inv hF
  have hM6 := T_X7_busyNight hfl fl _ _ _ _ hv0 _ h2
  rcases xc_inv hF with ⟨e7, h5, hF⟩ | ⟨x3, h5, hF⟩
  · rw [h5] at hM6
    by_cases c13 : e7 = 3
    · have hF := ite_t hF c13
      subst c13
      refine E_callVX_c (i9 := 4) (na := 2) (As := [.int v1, .int v2]) (S := [.int (0 : Int32), .ref v3]) (kc := 0) (ks := 0) (ci := 9) rfl rfl hv0 (shape_ord hv0).1 cwV_RL_86 [] (0, 10, 13, 21) [(0, 10, 17, 63)] rfl ⟨Nat.le_of_ble_eq_true rfl, Nat.le_of_ble_eq_true rfl⟩ (by decide) wT509 wN6 (by intro z9 hz9; cases hz9) (Nat.le_of_ble_eq_true rfl) ⟨Nat.le_of_ble_eq_true rfl, Nat.le_of_ble_eq_true rfl⟩ hM6 rfl rfl (Nat.le_of_ble_eq_true rfl) dL_busyNight_5 dL_busyNight_13 ?_
      refine E_iconst (v := (1 : Int32)) rfl dL_busyNight_15 ?_
      exact E_iret (Or.inr ⟨rfl, rfl⟩) rfl (by cases hF; exact hr) dL_busyNight_16
    · have hF := ite_f hF c13
      by_cases c14 : e7 = 6
      · have hF := ite_t hF c14
        subst c14
        refine E_callVX_c (i9 := 4) (na := 2) (As := [.int v1, .int v2]) (S := [.int (0 : Int32), .ref v3]) (kc := 0) (ks := 0) (ci := 9) rfl rfl hv0 (shape_ord hv0).1 cwV_RL_86 [(0, 10, 13, 21)] (0, 10, 17, 63) [] rfl ⟨Nat.le_of_ble_eq_true rfl, Nat.le_of_ble_eq_true rfl⟩ (by decide) wT552 wN8 (by intro z9 hz9; simp only [List.mem_cons, List.not_mem_nil, or_false] at hz9; rcases hz9 with rfl <;> first | exact ⟨by decide, _, wT509, by decide +kernel⟩) (Nat.le_of_ble_eq_true rfl) ⟨Nat.le_of_ble_eq_true rfl, Nat.le_of_ble_eq_true rfl⟩ hM6 rfl rfl (Nat.le_of_ble_eq_true rfl) dL_busyNight_5 dL_busyNight_17 ?_
        refine E_iconst (v := (2 : Int32)) rfl dL_busyNight_19 ?_
        exact E_iret (Or.inr ⟨rfl, rfl⟩) rfl (by cases hF; exact hr) dL_busyNight_20
      · have hF := ite_f hF c14
        cases hF
  · rw [h5] at hM6
    generalize q1.2 = s4 at hF hM6
    refine E_callVX (na := 2) (As := [.int v1, .int v2]) (S := [.int (0 : Int32), .ref v3]) (kc := 0) (ks := 0) (ci := 9) rfl rfl hv0 (shape_ord hv0).1 cwV_RL_86 ⟨Nat.le_of_ble_eq_true rfl, Nat.le_of_ble_eq_true rfl⟩ hM6 rfl rfl rfl (Nat.le_of_ble_eq_true rfl) dL_busyNight_5 ?_
    refine E_i2l dL_busyNight_8 ?_
    obtain ⟨N8, h9, hF⟩ := bd_inv hF
    have h9 := aLen_inv h9
    obtain ⟨h10, hF⟩ := gd_inv hF
    refine E_last _ h9 (shape_ord h9).1 h10 dL_busyNight_9 ?_
    obtain ⟨m11, e12, hF⟩ := nx_inv hF
    refine E_mem e12 ?_
    refine E_goto (tgt := 21) rfl dL_busyNight_10 ?_
    refine E_iconst (v := (0 : Int32)) rfl dL_busyNight_21 ?_
    exact E_iret (Or.inr ⟨rfl, rfl⟩) rfl (by cases hF; exact hr) dL_busyNight_22
set_option maxHeartbeats 4000000 in
set_option maxRecDepth 100000 in
theorem T_L_firstFree {l : Launch} (hfl : l.stackTraces = false) (fl : Nat) (v0 : Nat) (v1 : Int32) (v2 : Int32) (v3 : Int32) (v4 : Nat) (s : Mem) (hv0 : shape v0 = some (.inl 9)) (ρ : (Int32 × Mem)) (hF : F_L_firstFree fl v0 v1 v2 v3 v4 s = some ρ) : MetX l X_L_firstFree NF s [.ref v0, .int v1, .int v2, .int v3, .ref v4] (.inr (some (.int ρ.1)), NF, ρ.2) := by
  unfold F_L_firstFree at hF
  obtain ⟨r, hr⟩ : ∃ r : Rs, r = (.inr (some (.int ρ.1)), NF, ρ.2) := ⟨_, rfl⟩
  rw [← hr]
  refine metH_of_E rfl (by decide) (by decide +kernel) hfl rfl (Nat.le_of_ble_eq_true rfl) ?_
  show E l X_L_firstFree r false NF s 2 12 0 [(0, .ref v0), (1, .int v1), (2, .int v2), (3, .int v3), (4, .ref v4)] []
  refine E_aload (q := 4) rfl dL_firstFree_0 ?_
  refine E_iconst (v := (0 : Int32)) rfl dL_firstFree_2 ?_
  refine E_aload_n (j := 0) (i := 0) (q := 0) rfl rfl dL_firstFree_3 ?_
  refine E_iload_n (j := 1) (i := 1) (q := 1) rfl rfl dL_firstFree_4 ?_
  refine E_iload_n (j := 2) (i := 2) (q := 2) rfl rfl dL_firstFree_5 ?_
  refine E_iload_n (j := 3) (i := 3) (q := 3) rfl rfl dL_firstFree_6 ?_
  obtain ⟨q1, h2, hF⟩ := bd_inv hF
  have hM6 := T_X7_firstFree hfl fl _ _ _ _ _ hv0 _ h2
  rcases xc_inv hF with ⟨e7, h5, hF⟩ | ⟨x3, h5, hF⟩
  · rw [h5] at hM6
    by_cases c13 : e7 = 3
    · have hF := ite_t hF c13
      subst c13
      refine E_callVX_c (i9 := 5) (na := 3) (As := [.int v1, .int v2, .int v3]) (S := [.int (0 : Int32), .ref v4]) (kc := 0) (ks := 0) (ci := 9) rfl rfl hv0 (shape_ord hv0).1 cwV_RL_89 [] (0, 12, 15, 21) [(0, 12, 19, 13), (0, 12, 23, 63)] rfl ⟨Nat.le_of_ble_eq_true rfl, Nat.le_of_ble_eq_true rfl⟩ (by decide) wT509 wN6 (by intro z9 hz9; cases hz9) (Nat.le_of_ble_eq_true rfl) ⟨Nat.le_of_ble_eq_true rfl, Nat.le_of_ble_eq_true rfl⟩ hM6 rfl rfl (Nat.le_of_ble_eq_true rfl) dL_firstFree_7 dL_firstFree_15 ?_
      refine E_iconst (v := (1 : Int32)) rfl dL_firstFree_17 ?_
      exact E_iret (Or.inr ⟨rfl, rfl⟩) rfl (by cases hF; exact hr) dL_firstFree_18
    · have hF := ite_f hF c13
      by_cases c14 : e7 = 1
      · have hF := ite_t hF c14
        subst c14
        refine E_callVX_c (i9 := 5) (na := 3) (As := [.int v1, .int v2, .int v3]) (S := [.int (0 : Int32), .ref v4]) (kc := 0) (ks := 0) (ci := 9) rfl rfl hv0 (shape_ord hv0).1 cwV_RL_89 [(0, 12, 15, 21)] (0, 12, 19, 13) [(0, 12, 23, 63)] rfl ⟨Nat.le_of_ble_eq_true rfl, Nat.le_of_ble_eq_true rfl⟩ (by decide) wT503 wN4 (by intro z9 hz9; simp only [List.mem_cons, List.not_mem_nil, or_false] at hz9; rcases hz9 with rfl <;> first | exact ⟨by decide, _, wT509, by decide +kernel⟩) (Nat.le_of_ble_eq_true rfl) ⟨Nat.le_of_ble_eq_true rfl, Nat.le_of_ble_eq_true rfl⟩ hM6 rfl rfl (Nat.le_of_ble_eq_true rfl) dL_firstFree_7 dL_firstFree_19 ?_
        refine E_iconst (v := (2 : Int32)) rfl dL_firstFree_21 ?_
        exact E_iret (Or.inr ⟨rfl, rfl⟩) rfl (by cases hF; exact hr) dL_firstFree_22
      · have hF := ite_f hF c14
        by_cases c15 : e7 = 6
        · have hF := ite_t hF c15
          subst c15
          refine E_callVX_c (i9 := 5) (na := 3) (As := [.int v1, .int v2, .int v3]) (S := [.int (0 : Int32), .ref v4]) (kc := 0) (ks := 0) (ci := 9) rfl rfl hv0 (shape_ord hv0).1 cwV_RL_89 [(0, 12, 15, 21), (0, 12, 19, 13)] (0, 12, 23, 63) [] rfl ⟨Nat.le_of_ble_eq_true rfl, Nat.le_of_ble_eq_true rfl⟩ (by decide) wT552 wN8 (by intro z9 hz9; simp only [List.mem_cons, List.not_mem_nil, or_false] at hz9; rcases hz9 with rfl | rfl <;> first | exact ⟨by decide, _, wT509, by decide +kernel⟩ | exact ⟨by decide, _, wT503, by decide +kernel⟩) (Nat.le_of_ble_eq_true rfl) ⟨Nat.le_of_ble_eq_true rfl, Nat.le_of_ble_eq_true rfl⟩ hM6 rfl rfl (Nat.le_of_ble_eq_true rfl) dL_firstFree_7 dL_firstFree_23 ?_
          refine E_iconst (v := (3 : Int32)) rfl dL_firstFree_25 ?_
          exact E_iret (Or.inr ⟨rfl, rfl⟩) rfl (by cases hF; exact hr) dL_firstFree_26
        · have hF := ite_f hF c15
          cases hF
  · rw [h5] at hM6
    generalize q1.2 = s4 at hF hM6
    refine E_callVX (na := 3) (As := [.int v1, .int v2, .int v3]) (S := [.int (0 : Int32), .ref v4]) (kc := 0) (ks := 0) (ci := 9) rfl rfl hv0 (shape_ord hv0).1 cwV_RL_89 ⟨Nat.le_of_ble_eq_true rfl, Nat.le_of_ble_eq_true rfl⟩ hM6 rfl rfl rfl (Nat.le_of_ble_eq_true rfl) dL_firstFree_7 ?_
    refine E_i2l dL_firstFree_10 ?_
    obtain ⟨N8, h9, hF⟩ := bd_inv hF
    have h9 := aLen_inv h9
    obtain ⟨h10, hF⟩ := gd_inv hF
    refine E_last _ h9 (shape_ord h9).1 h10 dL_firstFree_11 ?_
    obtain ⟨m11, e12, hF⟩ := nx_inv hF
    refine E_mem e12 ?_
    refine E_goto (tgt := 27) rfl dL_firstFree_12 ?_
    refine E_iconst (v := (0 : Int32)) rfl dL_firstFree_27 ?_
    exact E_iret (Or.inr ⟨rfl, rfl⟩) rfl (by cases hF; exact hr) dL_firstFree_28
set_option maxHeartbeats 4000000 in
set_option maxRecDepth 100000 in
theorem T_L_power {l : Launch} (hfl : l.stackTraces = false) (fl : Nat) (v0 : Nat) (v1 : Int32) (v2 : Int32) (v3 : Nat) (s : Mem) (hv0 : shape v0 = some (.inl 9)) (ρ : (Int32 × Mem)) (hF : F_L_power fl v0 v1 v2 v3 s = some ρ) : MetX l X_L_power NF s [.ref v0, .int v1, .int v2, .ref v3] (.inr (some (.int ρ.1)), NF, ρ.2) := by
  unfold F_L_power at hF
  obtain ⟨r, hr⟩ : ∃ r : Rs, r = (.inr (some (.int ρ.1)), NF, ρ.2) := ⟨_, rfl⟩
  rw [← hr]
  refine metH_of_E rfl (by decide) (by decide +kernel) hfl rfl (Nat.le_of_ble_eq_true rfl) ?_
  show E l X_L_power r false NF s 2 12 0 [(0, .ref v0), (1, .int v1), (2, .int v2), (3, .ref v3)] []
  refine E_aload_n (j := 3) (i := 3) (q := 3) rfl rfl dL_power_0 ?_
  refine E_iconst (v := (0 : Int32)) rfl dL_power_1 ?_
  refine E_aload_n (j := 0) (i := 0) (q := 0) rfl rfl dL_power_2 ?_
  refine E_iload_n (j := 1) (i := 1) (q := 1) rfl rfl dL_power_3 ?_
  refine E_iload_n (j := 2) (i := 2) (q := 2) rfl rfl dL_power_4 ?_
  obtain ⟨q1, h2, hF⟩ := bd_inv hF
  have hM6 := T_X7_power hfl fl _ _ _ _ hv0 _ h2
  rcases xc_inv hF with ⟨e7, h5, hF⟩ | ⟨x3, h5, hF⟩
  · rw [h5] at hM6
    by_cases c13 : e7 = 3
    · have hF := ite_t hF c13
      subst c13
      refine E_callVX_c (i9 := 4) (na := 2) (As := [.int v1, .int v2]) (S := [.int (0 : Int32), .ref v3]) (kc := 0) (ks := 0) (ci := 9) rfl rfl hv0 (shape_ord hv0).1 cwV_RL_92 [] (0, 10, 13, 21) [] rfl ⟨Nat.le_of_ble_eq_true rfl, Nat.le_of_ble_eq_true rfl⟩ (by decide) wT509 wN6 (by intro z9 hz9; cases hz9) (Nat.le_of_ble_eq_true rfl) ⟨Nat.le_of_ble_eq_true rfl, Nat.le_of_ble_eq_true rfl⟩ hM6 rfl rfl (Nat.le_of_ble_eq_true rfl) dL_power_5 dL_power_13 ?_
      refine E_iconst (v := (1 : Int32)) rfl dL_power_15 ?_
      exact E_iret (Or.inr ⟨rfl, rfl⟩) rfl (by cases hF; exact hr) dL_power_16
    · have hF := ite_f hF c13
      cases hF
  · rw [h5] at hM6
    generalize q1.2 = s4 at hF hM6
    refine E_callVX (na := 2) (As := [.int v1, .int v2]) (S := [.int (0 : Int32), .ref v3]) (kc := 0) (ks := 0) (ci := 9) rfl rfl hv0 (shape_ord hv0).1 cwV_RL_92 ⟨Nat.le_of_ble_eq_true rfl, Nat.le_of_ble_eq_true rfl⟩ hM6 rfl rfl rfl (Nat.le_of_ble_eq_true rfl) dL_power_5 ?_
    refine E_i2l dL_power_8 ?_
    obtain ⟨N8, h9, hF⟩ := bd_inv hF
    have h9 := aLen_inv h9
    obtain ⟨h10, hF⟩ := gd_inv hF
    refine E_last _ h9 (shape_ord h9).1 h10 dL_power_9 ?_
    obtain ⟨m11, e12, hF⟩ := nx_inv hF
    refine E_mem e12 ?_
    refine E_goto (tgt := 17) rfl dL_power_10 ?_
    refine E_iconst (v := (0 : Int32)) rfl dL_power_17 ?_
    exact E_iret (Or.inr ⟨rfl, rfl⟩) rfl (by cases hF; exact hr) dL_power_18
set_option maxHeartbeats 4000000 in
set_option maxRecDepth 100000 in
theorem T_L_peak {l : Launch} (hfl : l.stackTraces = false) (fl : Nat) (v0 : Nat) (v1 : Int32) (v2 : Nat) (s : Mem) (hv0 : shape v0 = some (.inl 9)) (ρ : (Int32 × Mem)) (hF : F_L_peak fl v0 v1 v2 s = some ρ) : MetX l X_L_peak NF s [.ref v0, .int v1, .ref v2] (.inr (some (.int ρ.1)), NF, ρ.2) := by
  unfold F_L_peak at hF
  obtain ⟨r, hr⟩ : ∃ r : Rs, r = (.inr (some (.int ρ.1)), NF, ρ.2) := ⟨_, rfl⟩
  rw [← hr]
  refine metH_of_E rfl (by decide) (by decide +kernel) hfl rfl (Nat.le_of_ble_eq_true rfl) ?_
  show E l X_L_peak r false NF s 2 12 0 [(0, .ref v0), (1, .int v1), (2, .ref v2)] []
  refine E_aload_n (j := 2) (i := 2) (q := 2) rfl rfl dL_peak_0 ?_
  refine E_iconst (v := (0 : Int32)) rfl dL_peak_1 ?_
  refine E_aload_n (j := 0) (i := 0) (q := 0) rfl rfl dL_peak_2 ?_
  refine E_iload_n (j := 1) (i := 1) (q := 1) rfl rfl dL_peak_3 ?_
  obtain ⟨q1, h2, hF⟩ := bd_inv hF
  have hM6 := T_X7_peak hfl fl _ _ _ hv0 _ h2
  rcases xc_inv hF with ⟨e7, h5, hF⟩ | ⟨x3, h5, hF⟩
  · rw [h5] at hM6
    by_cases c13 : e7 = 3
    · have hF := ite_t hF c13
      subst c13
      refine E_callVX_c_n (i9 := 3) (na := 1) (As := [.int v1]) (S := [.int (0 : Int32), .ref v2]) (kc := 0) (ks := 0) (ci := 9) rfl rfl hv0 (shape_ord hv0).1 cwV_RL_95 [] (0, 9, 12, 21) [(0, 9, 15, 63)] rfl ⟨Nat.le_of_ble_eq_true rfl, Nat.le_of_ble_eq_true rfl⟩ (by decide) wT509 wN6 (by intro z9 hz9; cases hz9) (j9 := 3) rfl (Nat.le_of_ble_eq_true rfl) ⟨Nat.le_of_ble_eq_true rfl, Nat.le_of_ble_eq_true rfl⟩ hM6 rfl rfl (Nat.le_of_ble_eq_true rfl) dL_peak_4 dL_peak_12 ?_
      refine E_iconst (v := (1 : Int32)) rfl dL_peak_13 ?_
      exact E_iret (Or.inr ⟨rfl, rfl⟩) rfl (by cases hF; exact hr) dL_peak_14
    · have hF := ite_f hF c13
      by_cases c14 : e7 = 6
      · have hF := ite_t hF c14
        subst c14
        refine E_callVX_c_n (i9 := 3) (na := 1) (As := [.int v1]) (S := [.int (0 : Int32), .ref v2]) (kc := 0) (ks := 0) (ci := 9) rfl rfl hv0 (shape_ord hv0).1 cwV_RL_95 [(0, 9, 12, 21)] (0, 9, 15, 63) [] rfl ⟨Nat.le_of_ble_eq_true rfl, Nat.le_of_ble_eq_true rfl⟩ (by decide) wT552 wN8 (by intro z9 hz9; simp only [List.mem_cons, List.not_mem_nil, or_false] at hz9; rcases hz9 with rfl <;> first | exact ⟨by decide, _, wT509, by decide +kernel⟩) (j9 := 3) rfl (Nat.le_of_ble_eq_true rfl) ⟨Nat.le_of_ble_eq_true rfl, Nat.le_of_ble_eq_true rfl⟩ hM6 rfl rfl (Nat.le_of_ble_eq_true rfl) dL_peak_4 dL_peak_15 ?_
        refine E_iconst (v := (2 : Int32)) rfl dL_peak_16 ?_
        exact E_iret (Or.inr ⟨rfl, rfl⟩) rfl (by cases hF; exact hr) dL_peak_17
      · have hF := ite_f hF c14
        cases hF
  · rw [h5] at hM6
    generalize q1.2 = s4 at hF hM6
    refine E_callVX (na := 1) (As := [.int v1]) (S := [.int (0 : Int32), .ref v2]) (kc := 0) (ks := 0) (ci := 9) rfl rfl hv0 (shape_ord hv0).1 cwV_RL_95 ⟨Nat.le_of_ble_eq_true rfl, Nat.le_of_ble_eq_true rfl⟩ hM6 rfl rfl rfl (Nat.le_of_ble_eq_true rfl) dL_peak_4 ?_
    refine E_i2l dL_peak_7 ?_
    obtain ⟨N8, h9, hF⟩ := bd_inv hF
    have h9 := aLen_inv h9
    obtain ⟨h10, hF⟩ := gd_inv hF
    refine E_last _ h9 (shape_ord h9).1 h10 dL_peak_8 ?_
    obtain ⟨m11, e12, hF⟩ := nx_inv hF
    refine E_mem e12 ?_
    refine E_goto (tgt := 18) rfl dL_peak_9 ?_
    refine E_iconst (v := (0 : Int32)) rfl dL_peak_18 ?_
    exact E_iret (Or.inr ⟨rfl, rfl⟩) rfl (by cases hF; exact hr) dL_peak_19
set_option maxHeartbeats 4000000 in
set_option maxRecDepth 100000 in
theorem T_L_gap {l : Launch} (hfl : l.stackTraces = false) (fl : Nat) (v0 : Nat) (v1 : Int32) (v2 : Int32) (v3 : Int32) (v4 : Nat) (s : Mem) (hv0 : shape v0 = some (.inl 9)) (ρ : (Int32 × Mem)) (hF : F_L_gap fl v0 v1 v2 v3 v4 s = some ρ) : MetX l X_L_gap NF s [.ref v0, .int v1, .int v2, .int v3, .ref v4] (.inr (some (.int ρ.1)), NF, ρ.2) := by
  unfold F_L_gap at hF
  obtain ⟨r, hr⟩ : ∃ r : Rs, r = (.inr (some (.int ρ.1)), NF, ρ.2) := ⟨_, rfl⟩
  rw [← hr]
  refine metH_of_E rfl (by decide) (by decide +kernel) hfl rfl (Nat.le_of_ble_eq_true rfl) ?_
  show E l X_L_gap r false NF s 2 12 0 [(0, .ref v0), (1, .int v1), (2, .int v2), (3, .int v3), (4, .ref v4)] []
  refine E_aload (q := 4) rfl dL_gap_0 ?_
  refine E_iconst (v := (0 : Int32)) rfl dL_gap_2 ?_
  refine E_aload_n (j := 0) (i := 0) (q := 0) rfl rfl dL_gap_3 ?_
  refine E_iload_n (j := 1) (i := 1) (q := 1) rfl rfl dL_gap_4 ?_
  refine E_iload_n (j := 2) (i := 2) (q := 2) rfl rfl dL_gap_5 ?_
  refine E_iload_n (j := 3) (i := 3) (q := 3) rfl rfl dL_gap_6 ?_
  obtain ⟨q1, h2, hF⟩ := bd_inv hF
  have hM6 := T_X7_gap hfl fl _ _ _ _ _ hv0 _ h2
  rcases xc_inv hF with ⟨e7, h5, hF⟩ | ⟨x3, h5, hF⟩
  · rw [h5] at hM6
    by_cases c13 : e7 = 3
    · have hF := ite_t hF c13
      subst c13
      refine E_callVX_c (i9 := 5) (na := 3) (As := [.int v1, .int v2, .int v3]) (S := [.int (0 : Int32), .ref v4]) (kc := 0) (ks := 0) (ci := 9) rfl rfl hv0 (shape_ord hv0).1 cwV_RL_98 [] (0, 12, 15, 21) [(0, 12, 19, 63)] rfl ⟨Nat.le_of_ble_eq_true rfl, Nat.le_of_ble_eq_true rfl⟩ (by decide) wT509 wN6 (by intro z9 hz9; cases hz9) (Nat.le_of_ble_eq_true rfl) ⟨Nat.le_of_ble_eq_true rfl, Nat.le_of_ble_eq_true rfl⟩ hM6 rfl rfl (Nat.le_of_ble_eq_true rfl) dL_gap_7 dL_gap_15 ?_
      refine E_iconst (v := (1 : Int32)) rfl dL_gap_17 ?_
      exact E_iret (Or.inr ⟨rfl, rfl⟩) rfl (by cases hF; exact hr) dL_gap_18
    · have hF := ite_f hF c13
      by_cases c14 : e7 = 6
      · have hF := ite_t hF c14
        subst c14
        refine E_callVX_c (i9 := 5) (na := 3) (As := [.int v1, .int v2, .int v3]) (S := [.int (0 : Int32), .ref v4]) (kc := 0) (ks := 0) (ci := 9) rfl rfl hv0 (shape_ord hv0).1 cwV_RL_98 [(0, 12, 15, 21)] (0, 12, 19, 63) [] rfl ⟨Nat.le_of_ble_eq_true rfl, Nat.le_of_ble_eq_true rfl⟩ (by decide) wT552 wN8 (by intro z9 hz9; simp only [List.mem_cons, List.not_mem_nil, or_false] at hz9; rcases hz9 with rfl <;> first | exact ⟨by decide, _, wT509, by decide +kernel⟩) (Nat.le_of_ble_eq_true rfl) ⟨Nat.le_of_ble_eq_true rfl, Nat.le_of_ble_eq_true rfl⟩ hM6 rfl rfl (Nat.le_of_ble_eq_true rfl) dL_gap_7 dL_gap_19 ?_
        refine E_iconst (v := (2 : Int32)) rfl dL_gap_21 ?_
        exact E_iret (Or.inr ⟨rfl, rfl⟩) rfl (by cases hF; exact hr) dL_gap_22
      · have hF := ite_f hF c14
        cases hF
  · rw [h5] at hM6
    generalize q1.2 = s4 at hF hM6
    refine E_callVX (na := 3) (As := [.int v1, .int v2, .int v3]) (S := [.int (0 : Int32), .ref v4]) (kc := 0) (ks := 0) (ci := 9) rfl rfl hv0 (shape_ord hv0).1 cwV_RL_98 ⟨Nat.le_of_ble_eq_true rfl, Nat.le_of_ble_eq_true rfl⟩ hM6 rfl rfl rfl (Nat.le_of_ble_eq_true rfl) dL_gap_7 ?_
    refine E_i2l dL_gap_10 ?_
    obtain ⟨N8, h9, hF⟩ := bd_inv hF
    have h9 := aLen_inv h9
    obtain ⟨h10, hF⟩ := gd_inv hF
    refine E_last _ h9 (shape_ord h9).1 h10 dL_gap_11 ?_
    obtain ⟨m11, e12, hF⟩ := nx_inv hF
    refine E_mem e12 ?_
    refine E_goto (tgt := 23) rfl dL_gap_12 ?_
    refine E_iconst (v := (0 : Int32)) rfl dL_gap_23 ?_
    exact E_iret (Or.inr ⟨rfl, rfl⟩) rfl (by cases hF; exact hr) dL_gap_24
set_option maxHeartbeats 4000000 in
set_option maxRecDepth 100000 in
theorem T_L_account {l : Launch} (hfl : l.stackTraces = false) (fl : Nat) (v0 : Nat) (v1 : Int32) (v2 : Nat) (s : Mem) (hv0 : shape v0 = some (.inl 9)) (ρ : (Int32 × Mem)) (hF : F_L_account fl v0 v1 v2 s = some ρ) : MetX l X_L_account NF s [.ref v0, .int v1, .ref v2] (.inr (some (.int ρ.1)), NF, ρ.2) := by
  unfold F_L_account at hF
  obtain ⟨r, hr⟩ : ∃ r : Rs, r = (.inr (some (.int ρ.1)), NF, ρ.2) := ⟨_, rfl⟩
  rw [← hr]
  refine metH_of_E rfl (by decide) (by decide +kernel) hfl rfl (Nat.le_of_ble_eq_true rfl) ?_
  show E l X_L_account r false NF s 1 6 0 [(0, .ref v0), (1, .int v1), (2, .ref v2)] []
  refine E_aload_n (j := 2) (i := 2) (q := 2) rfl rfl dL_account_0 ?_
  refine E_iconst (v := (0 : Int32)) rfl dL_account_1 ?_
  refine E_aload_n (j := 0) (i := 0) (q := 0) rfl rfl dL_account_2 ?_
  refine E_iload_n (j := 1) (i := 1) (q := 1) rfl rfl dL_account_3 ?_
  obtain ⟨q1, h2, hF⟩ := bd_inv hF
  have hM6 := T_X7_account hfl fl _ _ _ hv0 _ h2
  rcases xc_inv hF with ⟨e7, h5, hF⟩ | ⟨x3, h5, hF⟩
  · rw [h5] at hM6
    by_cases c13 : e7 = 1
    · have hF := ite_t hF c13
      subst c13
      refine E_callVX_c_n (i9 := 3) (na := 1) (As := [.int v1]) (S := [.int (0 : Int32), .ref v2]) (kc := 0) (ks := 0) (ci := 9) rfl rfl hv0 (shape_ord hv0).1 cwV_RL_102 [] (0, 9, 12, 13) [] rfl ⟨Nat.le_of_ble_eq_true rfl, Nat.le_of_ble_eq_true rfl⟩ (by decide) wT503 wN4 (by intro z9 hz9; cases hz9) (j9 := 3) rfl (Nat.le_of_ble_eq_true rfl) ⟨Nat.le_of_ble_eq_true rfl, Nat.le_of_ble_eq_true rfl⟩ hM6 rfl rfl (Nat.le_of_ble_eq_true rfl) dL_account_4 dL_account_12 ?_
      refine E_iconst (v := (1 : Int32)) rfl dL_account_13 ?_
      exact E_iret (Or.inr ⟨rfl, rfl⟩) rfl (by cases hF; exact hr) dL_account_14
    · have hF := ite_f hF c13
      cases hF
  · rw [h5] at hM6
    generalize q1.2 = s4 at hF hM6
    refine E_callVX (na := 1) (As := [.int v1]) (S := [.int (0 : Int32), .ref v2]) (kc := 0) (ks := 0) (ci := 9) rfl rfl hv0 (shape_ord hv0).1 cwV_RL_102 ⟨Nat.le_of_ble_eq_true rfl, Nat.le_of_ble_eq_true rfl⟩ hM6 rfl rfl rfl (Nat.le_of_ble_eq_true rfl) dL_account_4 ?_
    refine E_i2l dL_account_7 ?_
    obtain ⟨N8, h9, hF⟩ := bd_inv hF
    have h9 := aLen_inv h9
    obtain ⟨h10, hF⟩ := gd_inv hF
    refine E_last _ h9 (shape_ord h9).1 h10 dL_account_8 ?_
    obtain ⟨m11, e12, hF⟩ := nx_inv hF
    refine E_mem e12 ?_
    refine E_goto (tgt := 15) rfl dL_account_9 ?_
    refine E_iconst (v := (0 : Int32)) rfl dL_account_15 ?_
    exact E_iret (Or.inr ⟨rfl, rfl⟩) rfl (by cases hF; exact hr) dL_account_16
set_option maxHeartbeats 4000000 in
set_option maxRecDepth 100000 in
theorem T_L_share {l : Launch} (hfl : l.stackTraces = false) (fl : Nat) (v0 : Nat) (v1 : Nat) (s : Mem) (hv0 : shape v0 = some (.inl 9)) (ρ : (Int32 × Mem)) (hF : F_L_share fl v0 v1 s = some ρ) : MetX l X_L_share NF s [.ref v0, .ref v1] (.inr (some (.int ρ.1)), NF, ρ.2) := by
  unfold F_L_share at hF
  obtain ⟨r, hr⟩ : ∃ r : Rs, r = (.inr (some (.int ρ.1)), NF, ρ.2) := ⟨_, rfl⟩
  rw [← hr]
  refine metH_of_E rfl (by decide) (by decide +kernel) hfl rfl (Nat.le_of_ble_eq_true rfl) ?_
  show E l X_L_share r false NF s 1 6 0 [(0, .ref v0), (1, .ref v1)] []
  refine E_aload_n (j := 1) (i := 1) (q := 1) rfl rfl dL_share_0 ?_
  refine E_iconst (v := (0 : Int32)) rfl dL_share_1 ?_
  refine E_aload_n (j := 0) (i := 0) (q := 0) rfl rfl dL_share_2 ?_
  obtain ⟨q1, h2, hF⟩ := bd_inv hF
  have hM6 := T_X7_share hfl fl _ _ hv0 _ h2
  rcases xc_inv hF with ⟨e7, h5, hF⟩ | ⟨x3, h5, hF⟩
  · rw [h5] at hM6
    by_cases c13 : e7 = 4
    · have hF := ite_t hF c13
      subst c13
      refine E_callVX_c_n (i9 := 2) (na := 0) (As := []) (S := [.int (0 : Int32), .ref v1]) (kc := 0) (ks := 0) (ci := 9) rfl rfl hv0 (shape_ord hv0).1 cwV_RL_105 [] (0, 7, 10, 109) [] rfl ⟨Nat.le_of_ble_eq_true rfl, Nat.le_of_ble_eq_true rfl⟩ (by decide) wT609 wN9 (by intro z9 hz9; cases hz9) (j9 := 2) rfl (Nat.le_of_ble_eq_true rfl) ⟨Nat.le_of_ble_eq_true rfl, Nat.le_of_ble_eq_true rfl⟩ hM6 rfl rfl (Nat.le_of_ble_eq_true rfl) dL_share_3 dL_share_10 ?_
      refine E_iconst (v := (1 : Int32)) rfl dL_share_11 ?_
      exact E_iret (Or.inr ⟨rfl, rfl⟩) rfl (by cases hF; exact hr) dL_share_12
    · have hF := ite_f hF c13
      cases hF
  · rw [h5] at hM6
    generalize q1.2 = s4 at hF hM6
    refine E_callVX (na := 0) (As := []) (S := [.int (0 : Int32), .ref v1]) (kc := 0) (ks := 0) (ci := 9) rfl rfl hv0 (shape_ord hv0).1 cwV_RL_105 ⟨Nat.le_of_ble_eq_true rfl, Nat.le_of_ble_eq_true rfl⟩ hM6 rfl rfl rfl (Nat.le_of_ble_eq_true rfl) dL_share_3 ?_
    obtain ⟨N8, h9, hF⟩ := bd_inv hF
    have h9 := aLen_inv h9
    obtain ⟨h10, hF⟩ := gd_inv hF
    refine E_dast _ h9 (shape_ord h9).1 h10 dL_share_6 ?_
    obtain ⟨m11, e12, hF⟩ := nx_inv hF
    refine E_mem e12 ?_
    refine E_goto (tgt := 13) rfl dL_share_7 ?_
    refine E_iconst (v := (0 : Int32)) rfl dL_share_13 ?_
    exact E_iret (Or.inr ⟨rfl, rfl⟩) rfl (by cases hF; exact hr) dL_share_14
set_option maxHeartbeats 4000000 in
set_option maxRecDepth 100000 in
theorem T_L_undo {l : Launch} (hfl : l.stackTraces = false) (fl : Nat) (v0 : Nat) (v1 : Nat) (s : Mem) (hv0 : shape v0 = some (.inl 9)) (ρ : (Int32 × Mem)) (hF : F_L_undo fl v0 v1 s = some ρ) : MetX l X_L_undo NF s [.ref v0, .ref v1] (.inr (some (.int ρ.1)), NF, ρ.2) := by
  unfold F_L_undo at hF
  obtain ⟨r, hr⟩ : ∃ r : Rs, r = (.inr (some (.int ρ.1)), NF, ρ.2) := ⟨_, rfl⟩
  rw [← hr]
  refine metH_of_E rfl (by decide) (by decide +kernel) hfl rfl (Nat.le_of_ble_eq_true rfl) ?_
  show E l X_L_undo r false NF s 1 6 0 [(0, .ref v0), (1, .ref v1)] []
  refine E_aload_n (j := 1) (i := 1) (q := 1) rfl rfl dL_undo_0 ?_
  refine E_iconst (v := (0 : Int32)) rfl dL_undo_1 ?_
  refine E_aload_n (j := 0) (i := 0) (q := 0) rfl rfl dL_undo_2 ?_
  obtain ⟨q1, h2, hF⟩ := bd_inv hF
  have hM6 := T_X7_undo hfl fl _ _ hv0 _ h2
  rcases xc_inv hF with ⟨e7, h5, hF⟩ | ⟨x3, h5, hF⟩
  · rw [h5] at hM6
    by_cases c13 : e7 = 2
    · have hF := ite_t hF c13
      subst c13
      refine E_callVX_c_n (i9 := 2) (na := 0) (As := []) (S := [.int (0 : Int32), .ref v1]) (kc := 0) (ks := 0) (ci := 9) rfl rfl hv0 (shape_ord hv0).1 cwV_RL_111 [] (0, 8, 11, 15) [] rfl ⟨Nat.le_of_ble_eq_true rfl, Nat.le_of_ble_eq_true rfl⟩ (by decide) wT504 wN5 (by intro z9 hz9; cases hz9) (j9 := 2) rfl (Nat.le_of_ble_eq_true rfl) ⟨Nat.le_of_ble_eq_true rfl, Nat.le_of_ble_eq_true rfl⟩ hM6 rfl rfl (Nat.le_of_ble_eq_true rfl) dL_undo_3 dL_undo_11 ?_
      refine E_iconst (v := (1 : Int32)) rfl dL_undo_12 ?_
      exact E_iret (Or.inr ⟨rfl, rfl⟩) rfl (by cases hF; exact hr) dL_undo_13
    · have hF := ite_f hF c13
      cases hF
  · rw [h5] at hM6
    generalize q1.2 = s4 at hF hM6
    refine E_callVX (na := 0) (As := []) (S := [.int (0 : Int32), .ref v1]) (kc := 0) (ks := 0) (ci := 9) rfl rfl hv0 (shape_ord hv0).1 cwV_RL_111 ⟨Nat.le_of_ble_eq_true rfl, Nat.le_of_ble_eq_true rfl⟩ hM6 rfl rfl rfl (Nat.le_of_ble_eq_true rfl) dL_undo_3 ?_
    refine E_i2l dL_undo_6 ?_
    obtain ⟨N8, h9, hF⟩ := bd_inv hF
    have h9 := aLen_inv h9
    obtain ⟨h10, hF⟩ := gd_inv hF
    refine E_last _ h9 (shape_ord h9).1 h10 dL_undo_7 ?_
    obtain ⟨m11, e12, hF⟩ := nx_inv hF
    refine E_mem e12 ?_
    refine E_goto (tgt := 14) rfl dL_undo_8 ?_
    refine E_iconst (v := (0 : Int32)) rfl dL_undo_14 ?_
    exact E_iret (Or.inr ⟨rfl, rfl⟩) rfl (by cases hF; exact hr) dL_undo_15
set_option maxHeartbeats 4000000 in
set_option maxRecDepth 100000 in
theorem T_L_restore {l : Launch} (hfl : l.stackTraces = false) (fl : Nat) (v0 : Nat) (s : Mem) (hv0 : shape v0 = some (.inl 9)) (ρ : (Int32 × Mem)) (hF : F_L_restore fl v0 s = some ρ) : MetX l X_L_restore NF s [.ref v0] (.inr (some (.int ρ.1)), NF, ρ.2) := by
  unfold F_L_restore at hF
  obtain ⟨r, hr⟩ : ∃ r : Rs, r = (.inr (some (.int ρ.1)), NF, ρ.2) := ⟨_, rfl⟩
  rw [← hr]
  refine metH_of_E rfl (by decide) (by decide +kernel) hfl rfl (Nat.le_of_ble_eq_true rfl) ?_
  show E l X_L_restore r false NF s 1 6 0 [(0, .ref v0)] []
  refine E_aload_n (j := 0) (i := 0) (q := 0) rfl rfl dL_restore_0 ?_
  obtain ⟨q1, h2, hF⟩ := bd_inv hF
  have hM5 := T_X7_restore hfl fl _ _ hv0 _ h2
  rcases xc_inv hF with ⟨e6, h4, hF⟩ | ⟨u9, h4, hF⟩
  · rw [h4] at hM5
    by_cases c7 : e6 = 2
    · have hF := ite_t hF c7
      subst c7
      refine E_callVX_c_n (i9 := 1) (na := 0) (As := []) (S := []) (kc := 0) (ks := 0) (ci := 9) rfl rfl hv0 (shape_ord hv0).1 cwV_RL_114 [] (0, 4, 7, 15) [] rfl ⟨Nat.le_of_ble_eq_true rfl, Nat.le_of_ble_eq_true rfl⟩ (by decide) wT504 wN5 (by intro z9 hz9; cases hz9) (j9 := 1) rfl (Nat.le_of_ble_eq_true rfl) ⟨Nat.le_of_ble_eq_true rfl, Nat.le_of_ble_eq_true rfl⟩ hM5 rfl rfl (Nat.le_of_ble_eq_true rfl) dL_restore_1 dL_restore_7 ?_
      refine E_iconst (v := (1 : Int32)) rfl dL_restore_8 ?_
      exact E_iret (Or.inr ⟨rfl, rfl⟩) rfl (by cases hF; exact hr) dL_restore_9
    · have hF := ite_f hF c7
      cases hF
  · rw [h4] at hM5
    generalize q1.2 = s3 at hF hM5
    refine E_callVX (na := 0) (As := []) (S := []) (kc := 0) (ks := 0) (ci := 9) rfl rfl hv0 (shape_ord hv0).1 cwV_RL_114 ⟨Nat.le_of_ble_eq_true rfl, Nat.le_of_ble_eq_true rfl⟩ hM5 rfl rfl rfl (Nat.le_of_ble_eq_true rfl) dL_restore_1 ?_
    refine E_goto (tgt := 10) rfl dL_restore_4 ?_
    refine E_iconst (v := (0 : Int32)) rfl dL_restore_10 ?_
    exact E_iret (Or.inr ⟨rfl, rfl⟩) rfl (by cases hF; exact hr) dL_restore_11
