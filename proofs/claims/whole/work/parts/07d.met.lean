set_option maxHeartbeats 4000000 in
set_option maxRecDepth 100000 in
theorem T_X8_gaps_104 {l : Launch} (hfl : l.stackTraces = false) (fl : Nat) {r : Rs} {ρ : (Int32 × Mem)} (hr : r = (.inr (some (.int ρ.1)), NF, ρ.2)) {k9 : Nat → Int64 → Int32 → Int32 → Int32 → Int32 → Mem → Option (Int32 × Mem)} (hk9 : ∀ (v0 : Nat) (v1 : Int64) (v3 : Int32) (v4 : Int32) (v5 : Int32) (v6 : Int32) (s : Mem) (hv0 : shape v0 = some (.inl 10)), k9 v0 v1 v3 v4 v5 v6 s = some ρ → E l X_X8_gaps r false NF s 0 0 9 [(0, .ref v0), (1, .long v1), (3, .int v3), (4, .int v4), (5, .int v5), (6, .int v6)] []) (v0 : Nat) (v1 : Int64) (v3 : Int32) (v4 : Int32) (v5 : Int32) (v6 : Int32) (s : Mem) (hv0 : shape v0 = some (.inl 10)) (hF : B_X8_gaps_104 k9 fl v0 v1 v3 v4 v5 v6 s = some ρ) : E l X_X8_gaps r false NF s 0 0 104 [(0, .ref v0), (1, .long v1), (3, .int v3), (4, .int v4), (5, .int v5), (6, .int v6)] [] := by
  unfold B_X8_gaps_104 at hF
  refine E_iinc (q := 5) (v := (v6 + (1 : Int32))) (L' := [(6, .int (v6 + (1 : Int32))), (0, .ref v0), (1, .long v1), (3, .int v3), (4, .int v4), (5, .int v5)]) rfl rfl (Nat.le_of_ble_eq_true rfl) rfl dX8_gaps_104 ?_
  refine E_goto (tgt := 9) rfl dX8_gaps_107 ?_
  refine E_sub [1, 2, 3, 4, 5, 0] rfl ?_
  exact hk9 _ _ _ _ _ _ _ hv0 hF
set_option maxHeartbeats 4000000 in
set_option maxRecDepth 100000 in
theorem T_X8_gaps_100 {l : Launch} (hfl : l.stackTraces = false) (fl : Nat) {r : Rs} {ρ : (Int32 × Mem)} (hr : r = (.inr (some (.int ρ.1)), NF, ρ.2)) {k9 : Nat → Int64 → Int32 → Int32 → Int32 → Int32 → Mem → Option (Int32 × Mem)} (hk9 : ∀ (v0 : Nat) (v1 : Int64) (v3 : Int32) (v4 : Int32) (v5 : Int32) (v6 : Int32) (s : Mem) (hv0 : shape v0 = some (.inl 10)), k9 v0 v1 v3 v4 v5 v6 s = some ρ → E l X_X8_gaps r false NF s 0 0 9 [(0, .ref v0), (1, .long v1), (3, .int v3), (4, .int v4), (5, .int v5), (6, .int v6)] []) (v0 : Nat) (v1 : Int64) (v3 : Int32) (v4 : Int32) (v6 : Int32) (s : Mem) (hv0 : shape v0 = some (.inl 10)) (hF : B_X8_gaps_100 k9 fl v0 v1 v3 v4 v6 s = some ρ) : E l X_X8_gaps r false NF s 0 0 100 [(0, .ref v0), (1, .long v1), (3, .int v3), (4, .int v4), (6, .int v6)] [] := by
  unfold B_X8_gaps_100 at hF
  refine E_iload (q := 4) rfl dX8_gaps_100 ?_
  refine E_istore (L' := [(5, .int v6), (0, .ref v0), (1, .long v1), (3, .int v3), (4, .int v4), (6, .int v6)]) (Nat.le_of_ble_eq_true rfl) rfl dX8_gaps_102 ?_
  refine E_sub [1, 2, 3, 4, 0, 5] rfl ?_
  exact T_X8_gaps_104 hfl fl hr hk9 _ _ _ _ _ _ _ hv0 hF
set_option maxHeartbeats 4000000 in
set_option maxRecDepth 100000 in
theorem T_X8_gaps_94 {l : Launch} (hfl : l.stackTraces = false) (fl : Nat) {r : Rs} {ρ : (Int32 × Mem)} (hr : r = (.inr (some (.int ρ.1)), NF, ρ.2)) {k9 : Nat → Int64 → Int32 → Int32 → Int32 → Int32 → Mem → Option (Int32 × Mem)} (hk9 : ∀ (v0 : Nat) (v1 : Int64) (v3 : Int32) (v4 : Int32) (v5 : Int32) (v6 : Int32) (s : Mem) (hv0 : shape v0 = some (.inl 10)), k9 v0 v1 v3 v4 v5 v6 s = some ρ → E l X_X8_gaps r false NF s 0 0 9 [(0, .ref v0), (1, .long v1), (3, .int v3), (4, .int v4), (5, .int v5), (6, .int v6)] []) (v0 : Nat) (v1 : Int64) (v3 : Int32) (v4 : Int32) (v6 : Int32) (w0 : Nat) (w1 : Int32) (s : Mem) (hv0 : shape v0 = some (.inl 10)) (hw0 : shape w0 = some (.inl 10)) (hF : B_X8_gaps_94 k9 fl v0 v1 v3 v4 v6 w0 w1 s = some ρ) : E l X_X8_gaps r false NF s 0 0 94 [(0, .ref v0), (1, .long v1), (3, .int v3), (4, .int v4), (6, .int v6)] [.int w1, .ref w0] := by
  unfold B_X8_gaps_94 at hF
  refine pf_RX8_109 rfl hw0 (shape_ord hw0).1 dX8_gaps_94 ?_
  obtain ⟨m1, e2, hF⟩ := nx_inv hF
  refine E_mem e2 ?_
  refine E_iinc (q := 3) (v := (v4 + (1 : Int32))) (L' := [(4, .int (v4 + (1 : Int32))), (0, .ref v0), (1, .long v1), (3, .int v3), (6, .int v6)]) rfl rfl (Nat.le_of_ble_eq_true rfl) rfl dX8_gaps_97 ?_
  refine E_sub [1, 2, 3, 0, 4] rfl ?_
  exact T_X8_gaps_100 hfl fl hr hk9 _ _ _ _ _ _ hv0 hF
set_option maxHeartbeats 4000000 in
set_option maxRecDepth 100000 in
theorem T_X8_gaps_73 {l : Launch} (hfl : l.stackTraces = false) (fl : Nat) {r : Rs} {ρ : (Int32 × Mem)} (hr : r = (.inr (some (.int ρ.1)), NF, ρ.2)) {k9 : Nat → Int64 → Int32 → Int32 → Int32 → Int32 → Mem → Option (Int32 × Mem)} (hk9 : ∀ (v0 : Nat) (v1 : Int64) (v3 : Int32) (v4 : Int32) (v5 : Int32) (v6 : Int32) (s : Mem) (hv0 : shape v0 = some (.inl 10)), k9 v0 v1 v3 v4 v5 v6 s = some ρ → E l X_X8_gaps r false NF s 0 0 9 [(0, .ref v0), (1, .long v1), (3, .int v3), (4, .int v4), (5, .int v5), (6, .int v6)] []) (v0 : Nat) (v1 : Int64) (v3 : Int32) (v4 : Int32) (v6 : Int32) (w0 : Nat) (w1 : Int32) (s : Mem) (hv0 : shape v0 = some (.inl 10)) (hw0 : shape w0 = some (.inl 10)) (hF : B_X8_gaps_73 k9 fl v0 v1 v3 v4 v6 w0 w1 s = some ρ) : E l X_X8_gaps r false NF s 0 0 73 [(0, .ref v0), (1, .long v1), (3, .int v3), (4, .int v4), (6, .int v6)] [.int w1, .ref w0] := by
  unfold B_X8_gaps_73 at hF
  refine pf_RX8_106 rfl hw0 (shape_ord hw0).1 dX8_gaps_73 ?_
  obtain ⟨m3, e4, hF⟩ := nx_inv hF
  refine E_mem e4 ?_
  refine E_aload_n (j := 0) (i := 0) (q := 0) rfl rfl dX8_gaps_76 ?_
  refine E_iload (q := 3) rfl dX8_gaps_77 ?_
  refine E_iload_n (j := 3) (i := 3) (q := 2) rfl rfl dX8_gaps_79 ?_
  refine E_icmp_ne (tgt := 90) rfl dX8_gaps_80 (fun c5 => ?_) (fun c5 => ?_)
  · have hF := ite_f hF c5
    refine E_aload_n (j := 0) (i := 0) (q := 0) rfl rfl dX8_gaps_90 ?_
    refine gf_RX8_109 rfl hv0 (shape_ord hv0).1 dX8_gaps_91 ?_
    refine E_sub [0, 1, 2, 3, 4] rfl ?_
    exact T_X8_gaps_94 hfl fl hr hk9 _ _ _ _ _ _ _ _ hv0 hv0 hF
  · have hF := ite_t hF c5
    refine E_iload (q := 4) rfl dX8_gaps_83 ?_
    refine E_iconst (v := (1 : Int32)) rfl dX8_gaps_85 ?_
    refine E_isub dX8_gaps_86 ?_
    refine E_goto (tgt := 94) rfl dX8_gaps_87 ?_
    refine E_sub [0, 1, 2, 3, 4] rfl ?_
    exact T_X8_gaps_94 hfl fl hr hk9 _ _ _ _ _ _ _ _ hv0 hv0 hF
set_option maxHeartbeats 4000000 in
set_option maxRecDepth 100000 in
theorem T_X8_gaps_9 {l : Launch} (hfl : l.stackTraces = false) (fl : Nat) {r : Rs} {ρ : (Int32 × Mem)} (hr : r = (.inr (some (.int ρ.1)), NF, ρ.2)) : ∀ (n : Nat) (v0 : Nat) (v1 : Int64) (v3 : Int32) (v4 : Int32) (v5 : Int32) (v6 : Int32) (s : Mem) (hv0 : shape v0 = some (.inl 10)), B_X8_gaps_9 fl n v0 v1 v3 v4 v5 v6 s = some ρ → E l X_X8_gaps r false NF s 0 0 9 [(0, .ref v0), (1, .long v1), (3, .int v3), (4, .int v4), (5, .int v5), (6, .int v6)] [] := by
  intro n
  induction n with
  | zero =>
    intro v0 v1 v3 v4 v5 v6 s hv0 hF
    cases hF
  | succ n ih =>
    intro v0 v1 v3 v4 v5 v6 s hv0 hF
    refine E_iload (q := 5) rfl dX8_gaps_9 ?_
    refine E_bipush (v := (60 : Int32)) rfl dX8_gaps_11 ?_
    refine E_icmp_ge (tgt := 110) rfl dX8_gaps_13 (fun c6 => ?_) (fun c6 => ?_)
    · have hF := ite_t hF c6
      refine E_iload (q := 3) rfl dX8_gaps_110 ?_
      exact E_iret (Or.inl rfl) rfl (by cases hF; exact hr) dX8_gaps_112
    · have hF := ite_f hF c6
      refine E_lload_n (j := 1) (i := 1) (q := 1) rfl rfl dX8_gaps_16 ?_
      refine E_iload (q := 5) rfl dX8_gaps_17 ?_
      refine E_lshr dX8_gaps_19 ?_
      refine E_lconst (v := (1 : Int64)) rfl dX8_gaps_20 ?_
      refine E_land dX8_gaps_21 ?_
      refine E_lconst (v := (0 : Int64)) rfl dX8_gaps_22 ?_
      refine E_lcmp dX8_gaps_23 ?_
      refine E_if_ne (tgt := 30) rfl dX8_gaps_24 (fun c7 => ?_) (fun c7 => ?_)
      · have hF := ite_f hF c7
        refine E_iload (q := 4) rfl dX8_gaps_30 ?_
        refine E_if_lt (tgt := 100) rfl dX8_gaps_32 (fun c8 => ?_) (fun c8 => ?_)
        · have hF := ite_t hF c8
          refine E_sub [0, 1, 2, 3, 5] rfl ?_
          exact T_X8_gaps_100 hfl fl hr ih _ _ _ _ _ _ hv0 hF
        · have hF := ite_f hF c8
          refine E_iload (q := 5) rfl dX8_gaps_35 ?_
          refine E_iload (q := 4) rfl dX8_gaps_37 ?_
          refine E_isub dX8_gaps_39 ?_
          refine E_iconst (v := (1 : Int32)) rfl dX8_gaps_40 ?_
          refine E_isub dX8_gaps_41 ?_
          refine E_iconst (v := (1 : Int32)) rfl dX8_gaps_42 ?_
          refine E_aload_n (j := 0) (i := 0) (q := 0) rfl rfl dX8_gaps_43 ?_
          obtain ⟨r9, h10, hF⟩ := bd_inv hF
          have h10 := ldA_inv h10
          refine gf_RX8_9 rfl hv0 (shape_ord hv0).1 h10.1 dX8_gaps_44 ?_
          refine E_iconst (v := (4 : Int32)) rfl dX8_gaps_47 ?_
          obtain ⟨h11, hF⟩ := gd_inv hF
          refine E_iald _ h10.2 (shape_ord h10.2).1 h11 dX8_gaps_48 ?_
          obtain ⟨q12, h13, hF⟩ := bd_inv hF
          refine E_callS (na := 3) (As := [.int ((v6 - v5) - (1 : Int32)), .int (1 : Int32), .int (gI s r9.1 (4 : Int32).toNatClampNeg)]) (S := []) (kc := 0) (ks := 0) cwS_RX8_52 ⟨Nat.le_of_ble_eq_true rfl, Nat.le_of_ble_eq_true rfl⟩ (T_X8_in hfl fl _ _ _ _  _ h13) rfl rfl rfl (Nat.le_of_ble_eq_true rfl) dX8_gaps_49 ?_
          refine E_if_eq (tgt := 100) rfl dX8_gaps_52 (fun c14 => ?_) (fun c14 => ?_)
          · have hF := ite_t hF c14
            refine E_sub [0, 1, 2, 3, 5] rfl ?_
            exact T_X8_gaps_100 hfl fl hr ih _ _ _ _ _ _ hv0 hF
          · have hF := ite_f hF c14
            refine E_aload_n (j := 0) (i := 0) (q := 0) rfl rfl dX8_gaps_55 ?_
            refine E_iload (q := 3) rfl dX8_gaps_56 ?_
            refine E_iload_n (j := 3) (i := 3) (q := 2) rfl rfl dX8_gaps_58 ?_
            refine E_icmp_ne (tgt := 69) rfl dX8_gaps_59 (fun c15 => ?_) (fun c15 => ?_)
            · have hF := ite_f hF c15
              refine E_aload_n (j := 0) (i := 0) (q := 0) rfl rfl dX8_gaps_69 ?_
              refine gf_RX8_106 rfl hv0 (shape_ord hv0).1 dX8_gaps_70 ?_
              refine E_sub [0, 1, 2, 3, 5] rfl ?_
              exact T_X8_gaps_73 hfl fl hr ih _ _ _ _ _ _ _ _ hv0 hv0 hF
            · have hF := ite_t hF c15
              refine E_iload (q := 4) rfl dX8_gaps_62 ?_
              refine E_iconst (v := (1 : Int32)) rfl dX8_gaps_64 ?_
              refine E_iadd dX8_gaps_65 ?_
              refine E_goto (tgt := 73) rfl dX8_gaps_66 ?_
              refine E_sub [0, 1, 2, 3, 5] rfl ?_
              exact T_X8_gaps_73 hfl fl hr ih _ _ _ _ _ _ _ _ hv0 hv0 hF
      · have hF := ite_t hF c7
        refine E_goto (tgt := 104) rfl dX8_gaps_27 ?_
        refine E_sub [0, 1, 2, 3, 4, 5] rfl ?_
        exact T_X8_gaps_104 hfl fl hr ih _ _ _ _ _ _ _ hv0 hF
set_option maxHeartbeats 4000000 in
set_option maxRecDepth 100000 in
theorem T_X8_gaps {l : Launch} (hfl : l.stackTraces = false) (fl : Nat) (v0 : Nat) (v1 : Int64) (v3 : Int32) (s : Mem) (hv0 : shape v0 = some (.inl 10)) (ρ : (Int32 × Mem)) (hF : F_X8_gaps fl v0 v1 v3 s = some ρ) : MetN l X_X8_gaps false NF s [.ref v0, .long v1, .int v3] (.inr (some (.int ρ.1)), NF, ρ.2) := by
  unfold F_X8_gaps at hF
  obtain ⟨r, hr⟩ : ∃ r : Rs, r = (.inr (some (.int ρ.1)), NF, ρ.2) := ⟨_, rfl⟩
  rw [← hr]
  refine met_of_E rfl rfl (by decide +kernel) hfl rfl (Nat.le_of_ble_eq_true rfl) ?_
  show E l X_X8_gaps r false NF s 0 0 0 [(0, .ref v0), (1, .long v1), (3, .int v3)] []
  refine E_iconst (v := (0 : Int32)) rfl dX8_gaps_0 ?_
  refine E_istore (L' := [(4, .int (0 : Int32)), (0, .ref v0), (1, .long v1), (3, .int v3)]) (Nat.le_of_ble_eq_true rfl) rfl dX8_gaps_1 ?_
  refine E_iconst (v := (-1 : Int32)) rfl dX8_gaps_3 ?_
  refine E_istore (L' := [(5, .int (-1 : Int32)), (4, .int (0 : Int32)), (0, .ref v0), (1, .long v1), (3, .int v3)]) (Nat.le_of_ble_eq_true rfl) rfl dX8_gaps_4 ?_
  refine E_iconst (v := (0 : Int32)) rfl dX8_gaps_6 ?_
  refine E_istore (L' := [(6, .int (0 : Int32)), (5, .int (-1 : Int32)), (4, .int (0 : Int32)), (0, .ref v0), (1, .long v1), (3, .int v3)]) (Nat.le_of_ble_eq_true rfl) rfl dX8_gaps_7 ?_
  refine E_sub [3, 4, 5, 2, 1, 0] rfl ?_
  exact T_X8_gaps_9 hfl fl hr  fl _ _ _ _ _ _ _ hv0 hF
set_option maxHeartbeats 4000000 in
set_option maxRecDepth 100000 in
theorem T_X8_gapsOf {l : Launch} (hfl : l.stackTraces = false) (fl : Nat) (v0 : Nat) (v1 : Int64) (s : Mem) (hv0 : shape v0 = some (.inl 10)) (ρ : (Int32 × Mem)) (hF : F_X8_gapsOf fl v0 v1 s = some ρ) : MetN l X_X8_gapsOf false NF s [.ref v0, .long v1] (.inr (some (.int ρ.1)), NF, ρ.2) := by
  unfold F_X8_gapsOf at hF
  obtain ⟨r, hr⟩ : ∃ r : Rs, r = (.inr (some (.int ρ.1)), NF, ρ.2) := ⟨_, rfl⟩
  rw [← hr]
  refine met_of_E rfl rfl (by decide +kernel) hfl rfl (Nat.le_of_ble_eq_true rfl) ?_
  show E l X_X8_gapsOf r false NF s 0 0 0 [(0, .ref v0), (1, .long v1)] []
  refine E_aload_n (j := 0) (i := 0) (q := 0) rfl rfl dX8_gapsOf_0 ?_
  refine E_lload_n (j := 1) (i := 1) (q := 1) rfl rfl dX8_gapsOf_1 ?_
  refine E_iconst (v := (-1 : Int32)) rfl dX8_gapsOf_2 ?_
  obtain ⟨q1, h2, hF⟩ := bd_inv hF
  refine E_callV (na := 2) (As := [.long v1, .int (-1 : Int32)]) (S := []) (kc := 0) (ks := 0) (ci := 10) rfl rfl hv0 (shape_ord hv0).1 cwV_RX8_112 ⟨Nat.le_of_ble_eq_true rfl, Nat.le_of_ble_eq_true rfl⟩ (T_X8_gaps hfl fl _ _ _ _ hv0 _ h2) rfl rfl rfl (Nat.le_of_ble_eq_true rfl) dX8_gapsOf_3 ?_
  exact E_iret (Or.inl rfl) rfl (by cases hF; exact hr) dX8_gapsOf_6
set_option maxHeartbeats 4000000 in
set_option maxRecDepth 100000 in
theorem T_X8_pitch_28 {l : Launch} (hfl : l.stackTraces = false) (fl : Nat) {r : Rs} {ρ : (Int32 × Mem)} (hr : r = (.inr (some (.int ρ.1)), NF, ρ.2)) (v0 : Nat) (v1 : Int32) (v2 : Int32) (w0 : Nat) (w1 : Int32) (s : Mem) (hv0 : shape v0 = some (.inl 10)) (hw0 : shape w0 = some (.inl 10)) (hF : B_X8_pitch_28 fl v0 v1 v2 w0 w1 s = some ρ) : E l X_X8_pitch r false NF s 0 0 28 [(0, .ref v0), (1, .int v1), (2, .int v2)] [.int w1, .ref w0] := by
  unfold B_X8_pitch_28 at hF
  refine pf_RX8_42 rfl hw0 (shape_ord hw0).1 dX8_pitch_28 ?_
  obtain ⟨m1, e2, hF⟩ := nx_inv hF
  refine E_mem e2 ?_
  refine E_aload_n (j := 0) (i := 0) (q := 0) rfl rfl dX8_pitch_31 ?_
  refine gf_RX8_42 rfl hv0 (shape_ord hv0).1 dX8_pitch_32 ?_
  refine E_if_eq (tgt := 40) rfl dX8_pitch_35 (fun c3 => ?_) (fun c3 => ?_)
  · have hF := ite_t hF c3
    refine E_iload_n (j := 2) (i := 2) (q := 2) rfl rfl dX8_pitch_40 ?_
    refine E_iconst (v := (5 : Int32)) rfl dX8_pitch_41 ?_
    refine E_icmp_ge (tgt := 52) rfl dX8_pitch_42 (fun c4 => ?_) (fun c4 => ?_)
    · have hF := ite_t hF c4
      refine E_aload_n (j := 0) (i := 0) (q := 0) rfl rfl dX8_pitch_52 ?_
      refine E_iconst (v := (-1 : Int32)) rfl dX8_pitch_53 ?_
      obtain ⟨q5, h6, hF⟩ := bd_inv hF
      refine E_callV (na := 1) (As := [.int (-1 : Int32)]) (S := []) (kc := 0) (ks := 0) (ci := 10) rfl rfl hv0 (shape_ord hv0).1 cwV_RX8_67 ⟨Nat.le_of_ble_eq_true rfl, Nat.le_of_ble_eq_true rfl⟩ (T_X8_loads hfl fl _ _ _ hv0 _ h6) rfl rfl rfl (Nat.le_of_ble_eq_true rfl) dX8_pitch_54 ?_
      refine E_iload_n (j := 2) (i := 2) (q := 2) rfl rfl dX8_pitch_57 ?_
      refine E_iconst (v := (5 : Int32)) rfl dX8_pitch_58 ?_
      refine E_icmp_ne (tgt := 73) rfl dX8_pitch_59 (fun c7 => ?_) (fun c7 => ?_)
      · have hF := ite_f hF c7
        refine E_aload_n (j := 0) (i := 0) (q := 0) rfl rfl dX8_pitch_73 ?_
        refine E_aload_n (j := 0) (i := 0) (q := 0) rfl rfl dX8_pitch_74 ?_
        refine E_iload_n (j := 1) (i := 1) (q := 1) rfl rfl dX8_pitch_75 ?_
        obtain ⟨q8, h9, hF⟩ := bd_inv hF
        refine E_callV (na := 1) (As := [.int v1]) (S := [.ref v0]) (kc := 0) (ks := 0) (ci := 10) rfl rfl hv0 (shape_ord hv0).1 cwV_RX8_71 ⟨Nat.le_of_ble_eq_true rfl, Nat.le_of_ble_eq_true rfl⟩ (T_X8_maskOf hfl fl _ _ _ hv0 _ h9) rfl rfl rfl (Nat.le_of_ble_eq_true rfl) dX8_pitch_76 ?_
        obtain ⟨q10, h11, hF⟩ := bd_inv hF
        refine E_callV (na := 1) (As := [.long q8]) (S := []) (kc := 0) (ks := 0) (ci := 10) rfl rfl hv0 (shape_ord hv0).1 cwV_RX8_79 ⟨Nat.le_of_ble_eq_true rfl, Nat.le_of_ble_eq_true rfl⟩ (T_X8_gapsOf hfl fl _ _ _ hv0 _ h11) rfl rfl rfl (Nat.le_of_ble_eq_true rfl) dX8_pitch_79 ?_
        exact E_iret (Or.inl rfl) rfl (by cases hF; exact hr) dX8_pitch_82
      · have hF := ite_t hF c7
        refine E_aload_n (j := 0) (i := 0) (q := 0) rfl rfl dX8_pitch_62 ?_
        refine E_iload_n (j := 1) (i := 1) (q := 1) rfl rfl dX8_pitch_63 ?_
        obtain ⟨q12, h13, hF⟩ := bd_inv hF
        refine E_callV (na := 1) (As := [.int v1]) (S := []) (kc := 0) (ks := 0) (ci := 10) rfl rfl hv0 (shape_ord hv0).1 cwV_RX8_71 ⟨Nat.le_of_ble_eq_true rfl, Nat.le_of_ble_eq_true rfl⟩ (T_X8_maskOf hfl fl _ _ _ hv0 _ h13) rfl rfl rfl (Nat.le_of_ble_eq_true rfl) dX8_pitch_64 ?_
        obtain ⟨q14, h15, hF⟩ := bd_inv hF
        refine E_callS (na := 1) (As := [.long q12]) (S := []) (kc := 0) (ks := 0) cwS_RX8_75 ⟨Nat.le_of_ble_eq_true rfl, Nat.le_of_ble_eq_true rfl⟩ (T_X8_bits hfl fl _ _  _ h15) rfl rfl rfl (Nat.le_of_ble_eq_true rfl) dX8_pitch_67 ?_
        refine E_goto (tgt := 82) rfl dX8_pitch_70 ?_
        exact E_iret (Or.inl rfl) rfl (by cases hF; exact hr) dX8_pitch_82
    · have hF := ite_f hF c4
      refine E_aload_n (j := 0) (i := 0) (q := 0) rfl rfl dX8_pitch_45 ?_
      refine E_iload_n (j := 1) (i := 1) (q := 1) rfl rfl dX8_pitch_46 ?_
      refine E_iload_n (j := 2) (i := 2) (q := 2) rfl rfl dX8_pitch_47 ?_
      obtain ⟨q16, h17, hF⟩ := bd_inv hF
      refine E_callV (na := 2) (As := [.int v1, .int v2]) (S := []) (kc := 0) (ks := 0) (ci := 10) rfl rfl hv0 (shape_ord hv0).1 cwV_RX8_63 ⟨Nat.le_of_ble_eq_true rfl, Nat.le_of_ble_eq_true rfl⟩ (T_X8_ofPitch hfl fl _ _ _ _ hv0 _ h17) rfl rfl rfl (Nat.le_of_ble_eq_true rfl) dX8_pitch_48 ?_
      exact E_iret (Or.inl rfl) rfl (by cases hF; exact hr) dX8_pitch_51
  · have hF := ite_f hF c3
    refine E_iconst (v := (0 : Int32)) rfl dX8_pitch_38 ?_
    exact E_iret (Or.inl rfl) rfl (by cases hF; exact hr) dX8_pitch_39
set_option maxHeartbeats 4000000 in
set_option maxRecDepth 100000 in
theorem T_X8_pitch {l : Launch} (hfl : l.stackTraces = false) (fl : Nat) (v0 : Nat) (v1 : Int32) (v2 : Int32) (s : Mem) (hv0 : shape v0 = some (.inl 10)) (ρ : (Int32 × Mem)) (hF : F_X8_pitch fl v0 v1 v2 s = some ρ) : MetN l X_X8_pitch false NF s [.ref v0, .int v1, .int v2] (.inr (some (.int ρ.1)), NF, ρ.2) := by
  unfold F_X8_pitch at hF
  obtain ⟨r, hr⟩ : ∃ r : Rs, r = (.inr (some (.int ρ.1)), NF, ρ.2) := ⟨_, rfl⟩
  rw [← hr]
  refine met_of_E rfl rfl (by decide +kernel) hfl rfl (Nat.le_of_ble_eq_true rfl) ?_
  show E l X_X8_pitch r false NF s 0 0 0 [(0, .ref v0), (1, .int v1), (2, .int v2)] []
  refine E_aload_n (j := 0) (i := 0) (q := 0) rfl rfl dX8_pitch_0 ?_
  refine E_aload_n (j := 0) (i := 0) (q := 0) rfl rfl dX8_pitch_1 ?_
  refine E_iload_n (j := 1) (i := 1) (q := 1) rfl rfl dX8_pitch_2 ?_
  obtain ⟨q18, h19, hF⟩ := bd_inv hF
  refine E_callV (na := 1) (As := [.int v1]) (S := [.ref v0]) (kc := 0) (ks := 0) (ci := 10) rfl rfl hv0 (shape_ord hv0).1 cwV_RX8_59 ⟨Nat.le_of_ble_eq_true rfl, Nat.le_of_ble_eq_true rfl⟩ (T_X8_isPitch hfl fl _ _ _ hv0 _ h19) rfl rfl rfl (Nat.le_of_ble_eq_true rfl) dX8_pitch_3 ?_
  refine E_if_ne (tgt := 13) rfl dX8_pitch_6 (fun c20 => ?_) (fun c20 => ?_)
  · have hF := ite_f hF c20
    refine E_iload_n (j := 2) (i := 2) (q := 2) rfl rfl dX8_pitch_13 ?_
    refine E_iconst (v := (0 : Int32)) rfl dX8_pitch_14 ?_
    refine E_bipush (v := (6 : Int32)) rfl dX8_pitch_15 ?_
    obtain ⟨q21, h22, hF⟩ := bd_inv hF
    refine E_callS (na := 3) (As := [.int v2, .int (0 : Int32), .int (6 : Int32)]) (S := [.ref v0]) (kc := 0) (ks := 0) cwS_RX8_52 ⟨Nat.le_of_ble_eq_true rfl, Nat.le_of_ble_eq_true rfl⟩ (T_X8_in hfl fl _ _ _ _  _ h22) rfl rfl rfl (Nat.le_of_ble_eq_true rfl) dX8_pitch_17 ?_
    refine E_if_eq (tgt := 27) rfl dX8_pitch_20 (fun c23 => ?_) (fun c23 => ?_)
    · have hF := ite_t hF c23
      refine E_iconst (v := (2 : Int32)) rfl dX8_pitch_27 ?_
      refine E_sub [0, 1, 2] rfl ?_
      exact T_X8_pitch_28 hfl fl hr  _ _ _ _ _ _ hv0 hv0 hF
    · have hF := ite_f hF c23
      refine E_iconst (v := (0 : Int32)) rfl dX8_pitch_23 ?_
      refine E_goto (tgt := 28) rfl dX8_pitch_24 ?_
      refine E_sub [0, 1, 2] rfl ?_
      exact T_X8_pitch_28 hfl fl hr  _ _ _ _ _ _ hv0 hv0 hF
  · have hF := ite_t hF c20
    refine E_iconst (v := (1 : Int32)) rfl dX8_pitch_9 ?_
    refine E_goto (tgt := 28) rfl dX8_pitch_10 ?_
    refine E_sub [0, 1, 2] rfl ?_
    exact T_X8_pitch_28 hfl fl hr  _ _ _ _ _ _ hv0 hv0 hF
set_option maxHeartbeats 4000000 in
set_option maxRecDepth 100000 in
theorem T_X8_sets {l : Launch} (hfl : l.stackTraces = false) (fl : Nat) (v0 : Nat) (v1 : Int32) (v2 : Int32) (s : Mem) (hv0 : shape v0 = some (.inl 10)) (ρ : (Int32 × Mem)) (hF : F_X8_sets fl v0 v1 v2 s = some ρ) : MetN l X_X8_sets false NF s [.ref v0, .int v1, .int v2] (.inr (some (.int ρ.1)), NF, ρ.2) := by
  unfold F_X8_sets at hF
  obtain ⟨r, hr⟩ : ∃ r : Rs, r = (.inr (some (.int ρ.1)), NF, ρ.2) := ⟨_, rfl⟩
  rw [← hr]
  refine met_of_E rfl rfl (by decide +kernel) hfl rfl (Nat.le_of_ble_eq_true rfl) ?_
  show E l X_X8_sets r false NF s 0 0 0 [(0, .ref v0), (1, .int v1), (2, .int v2)] []
  refine E_aload_n (j := 0) (i := 0) (q := 0) rfl rfl dX8_sets_0 ?_
  obtain ⟨q1, h2, hF⟩ := bd_inv hF
  refine E_callV (na := 0) (As := []) (S := []) (kc := 0) (ks := 0) (ci := 10) rfl rfl hv0 (shape_ord hv0).1 cwV_RX8_56 ⟨Nat.le_of_ble_eq_true rfl, Nat.le_of_ble_eq_true rfl⟩ (T_X8_keeps hfl fl _ _ hv0 _ h2) rfl rfl rfl (Nat.le_of_ble_eq_true rfl) dX8_sets_1 ?_
  refine E_aload_n (j := 0) (i := 0) (q := 0) rfl rfl dX8_sets_4 ?_
  obtain ⟨r3, h4, hF⟩ := bd_inv hF
  have h4 := ldA_inv h4
  refine gf_RX8_9 rfl hv0 (shape_ord hv0).1 h4.1 dX8_sets_5 ?_
  refine E_iload_n (j := 1) (i := 1) (q := 1) rfl rfl dX8_sets_8 ?_
  obtain ⟨h5, hF⟩ := gd_inv hF
  refine E_iald _ h4.2 (shape_ord h4.2).1 h5 dX8_sets_9 ?_
  refine E_istore_n (j := 3) (i := 3) (L' := [(3, .int (gI q1 r3.1 v1.toNatClampNeg)), (0, .ref v0), (1, .int v1), (2, .int v2)]) rfl (Nat.le_of_ble_eq_true rfl) rfl dX8_sets_10 ?_
  refine E_aload_n (j := 0) (i := 0) (q := 1) rfl rfl dX8_sets_11 ?_
  obtain ⟨r6, h7, hF⟩ := bd_inv hF
  have h7 := ldA_inv h7
  refine gf_RX8_9 rfl hv0 (shape_ord hv0).1 h7.1 dX8_sets_12 ?_
  refine E_iload_n (j := 1) (i := 1) (q := 2) rfl rfl dX8_sets_15 ?_
  refine E_iload_n (j := 2) (i := 2) (q := 3) rfl rfl dX8_sets_16 ?_
  obtain ⟨h8, hF⟩ := gd_inv hF
  refine E_iast _ h7.2 (shape_ord h7.2).1 h8 dX8_sets_17 ?_
  obtain ⟨m9, e10, hF⟩ := nx_inv hF
  refine E_mem e10 ?_
  refine E_iload_n (j := 3) (i := 3) (q := 0) rfl rfl dX8_sets_18 ?_
  exact E_iret (Or.inl rfl) rfl (by cases hF; exact hr) dX8_sets_19
set_option maxHeartbeats 4000000 in
set_option maxRecDepth 100000 in
theorem T_X8_setLimit_27 {l : Launch} (hfl : l.stackTraces = false) (fl : Nat) {r : Rs} {ρ : (Int32 × Mem)} (hr : r = (.inr (some (.int ρ.1)), NF, ρ.2)) (v0 : Nat) (v1 : Int32) (v2 : Int32) (w0 : Nat) (w1 : Int32) (s : Mem) (hv0 : shape v0 = some (.inl 10)) (hw0 : shape w0 = some (.inl 10)) (hF : B_X8_setLimit_27 fl v0 v1 v2 w0 w1 s = some ρ) : E l X_X8_setLimit r false NF s 0 0 27 [(0, .ref v0), (1, .int v1), (2, .int v2)] [.int w1, .ref w0] := by
  unfold B_X8_setLimit_27 at hF
  refine pf_RX8_42 rfl hw0 (shape_ord hw0).1 dX8_setLimit_27 ?_
  obtain ⟨m1, e2, hF⟩ := nx_inv hF
  refine E_mem e2 ?_
  refine E_aload_n (j := 0) (i := 0) (q := 0) rfl rfl dX8_setLimit_30 ?_
  refine gf_RX8_42 rfl hv0 (shape_ord hv0).1 dX8_setLimit_31 ?_
  refine E_if_ne (tgt := 48) rfl dX8_setLimit_34 (fun c3 => ?_) (fun c3 => ?_)
  · have hF := ite_f hF c3
    refine E_iconst (v := (0 : Int32)) rfl dX8_setLimit_48 ?_
    exact E_iret (Or.inl rfl) rfl (by cases hF; exact hr) dX8_setLimit_49
  · have hF := ite_t hF c3
    refine E_aload_n (j := 0) (i := 0) (q := 0) rfl rfl dX8_setLimit_37 ?_
    refine E_iconst (v := (5 : Int32)) rfl dX8_setLimit_38 ?_
    refine E_iload_n (j := 1) (i := 1) (q := 1) rfl rfl dX8_setLimit_39 ?_
    refine E_iadd dX8_setLimit_40 ?_
    refine E_iload_n (j := 2) (i := 2) (q := 2) rfl rfl dX8_setLimit_41 ?_
    obtain ⟨q4, h5, hF⟩ := bd_inv hF
    refine E_callV (na := 2) (As := [.int ((5 : Int32) + v1), .int v2]) (S := []) (kc := 0) (ks := 0) (ci := 10) rfl rfl hv0 (shape_ord hv0).1 cwV_RX8_85 ⟨Nat.le_of_ble_eq_true rfl, Nat.le_of_ble_eq_true rfl⟩ (T_X8_sets hfl fl _ _ _ _ hv0 _ h5) rfl rfl rfl (Nat.le_of_ble_eq_true rfl) dX8_setLimit_42 ?_
    refine E_goto (tgt := 49) rfl dX8_setLimit_45 ?_
    exact E_iret (Or.inl rfl) rfl (by cases hF; exact hr) dX8_setLimit_49
set_option maxHeartbeats 4000000 in
set_option maxRecDepth 100000 in
theorem T_X8_setLimit {l : Launch} (hfl : l.stackTraces = false) (fl : Nat) (v0 : Nat) (v1 : Int32) (v2 : Int32) (s : Mem) (hv0 : shape v0 = some (.inl 10)) (ρ : (Int32 × Mem)) (hF : F_X8_setLimit fl v0 v1 v2 s = some ρ) : MetN l X_X8_setLimit false NF s [.ref v0, .int v1, .int v2] (.inr (some (.int ρ.1)), NF, ρ.2) := by
  unfold F_X8_setLimit at hF
  obtain ⟨r, hr⟩ : ∃ r : Rs, r = (.inr (some (.int ρ.1)), NF, ρ.2) := ⟨_, rfl⟩
  rw [← hr]
  refine met_of_E rfl rfl (by decide +kernel) hfl rfl (Nat.le_of_ble_eq_true rfl) ?_
  show E l X_X8_setLimit r false NF s 0 0 0 [(0, .ref v0), (1, .int v1), (2, .int v2)] []
  refine E_aload_n (j := 0) (i := 0) (q := 0) rfl rfl dX8_setLimit_0 ?_
  refine E_iload_n (j := 1) (i := 1) (q := 1) rfl rfl dX8_setLimit_1 ?_
  obtain ⟨q6, h7, hF⟩ := bd_inv hF
  refine E_callS (na := 1) (As := [.int v1]) (S := [.ref v0]) (kc := 0) (ks := 0) cwS_RX8_82 ⟨Nat.le_of_ble_eq_true rfl, Nat.le_of_ble_eq_true rfl⟩ (T_X8_isCircuit hfl fl _ _  _ h7) rfl rfl rfl (Nat.le_of_ble_eq_true rfl) dX8_setLimit_2 ?_
  refine E_if_ne (tgt := 12) rfl dX8_setLimit_5 (fun c8 => ?_) (fun c8 => ?_)
  · have hF := ite_f hF c8
    refine E_iload_n (j := 2) (i := 2) (q := 2) rfl rfl dX8_setLimit_12 ?_
    refine E_iconst (v := (0 : Int32)) rfl dX8_setLimit_13 ?_
    refine E_bipush (v := (40 : Int32)) rfl dX8_setLimit_14 ?_
    obtain ⟨q9, h10, hF⟩ := bd_inv hF
    refine E_callS (na := 3) (As := [.int v2, .int (0 : Int32), .int (40 : Int32)]) (S := [.ref v0]) (kc := 0) (ks := 0) cwS_RX8_52 ⟨Nat.le_of_ble_eq_true rfl, Nat.le_of_ble_eq_true rfl⟩ (T_X8_in hfl fl _ _ _ _  _ h10) rfl rfl rfl (Nat.le_of_ble_eq_true rfl) dX8_setLimit_16 ?_
    refine E_if_eq (tgt := 26) rfl dX8_setLimit_19 (fun c11 => ?_) (fun c11 => ?_)
    · have hF := ite_t hF c11
      refine E_iconst (v := (2 : Int32)) rfl dX8_setLimit_26 ?_
      refine E_sub [0, 1, 2] rfl ?_
      exact T_X8_setLimit_27 hfl fl hr  _ _ _ _ _ _ hv0 hv0 hF
    · have hF := ite_f hF c11
      refine E_iconst (v := (0 : Int32)) rfl dX8_setLimit_22 ?_
      refine E_goto (tgt := 27) rfl dX8_setLimit_23 ?_
      refine E_sub [0, 1, 2] rfl ?_
      exact T_X8_setLimit_27 hfl fl hr  _ _ _ _ _ _ hv0 hv0 hF
  · have hF := ite_t hF c8
    refine E_iconst (v := (1 : Int32)) rfl dX8_setLimit_8 ?_
    refine E_goto (tgt := 27) rfl dX8_setLimit_9 ?_
    refine E_sub [0, 1, 2] rfl ?_
    exact T_X8_setLimit_27 hfl fl hr  _ _ _ _ _ _ hv0 hv0 hF
set_option maxHeartbeats 4000000 in
set_option maxRecDepth 100000 in
theorem T_X8_setRate_28 {l : Launch} (hfl : l.stackTraces = false) (fl : Nat) {r : Rs} {ρ : (Int32 × Mem)} (hr : r = (.inr (some (.int ρ.1)), NF, ρ.2)) (v0 : Nat) (v1 : Int32) (v2 : Int32) (w0 : Nat) (w1 : Int32) (s : Mem) (hv0 : shape v0 = some (.inl 10)) (hw0 : shape w0 = some (.inl 10)) (hF : B_X8_setRate_28 fl v0 v1 v2 w0 w1 s = some ρ) : E l X_X8_setRate r false NF s 0 0 28 [(0, .ref v0), (1, .int v1), (2, .int v2)] [.int w1, .ref w0] := by
  unfold B_X8_setRate_28 at hF
  refine pf_RX8_42 rfl hw0 (shape_ord hw0).1 dX8_setRate_28 ?_
  obtain ⟨m1, e2, hF⟩ := nx_inv hF
  refine E_mem e2 ?_
  refine E_aload_n (j := 0) (i := 0) (q := 0) rfl rfl dX8_setRate_31 ?_
  refine gf_RX8_42 rfl hv0 (shape_ord hv0).1 dX8_setRate_32 ?_
  refine E_if_ne (tgt := 54) rfl dX8_setRate_35 (fun c3 => ?_) (fun c3 => ?_)
  · have hF := ite_f hF c3
    refine E_iconst (v := (0 : Int32)) rfl dX8_setRate_54 ?_
    exact E_iret (Or.inl rfl) rfl (by cases hF; exact hr) dX8_setRate_55
  · have hF := ite_t hF c3
    refine E_aload_n (j := 0) (i := 0) (q := 0) rfl rfl dX8_setRate_38 ?_
    refine E_bipush (v := (8 : Int32)) rfl dX8_setRate_39 ?_
    refine E_iconst (v := (5 : Int32)) rfl dX8_setRate_41 ?_
    refine E_iload_n (j := 1) (i := 1) (q := 1) rfl rfl dX8_setRate_42 ?_
    refine E_imul dX8_setRate_43 ?_
    refine E_iadd dX8_setRate_44 ?_
    refine E_iconst (v := (4 : Int32)) rfl dX8_setRate_45 ?_
    refine E_iadd dX8_setRate_46 ?_
    refine E_iload_n (j := 2) (i := 2) (q := 2) rfl rfl dX8_setRate_47 ?_
    obtain ⟨q4, h5, hF⟩ := bd_inv hF
    refine E_callV (na := 2) (As := [.int (((8 : Int32) + ((5 : Int32) * v1)) + (4 : Int32)), .int v2]) (S := []) (kc := 0) (ks := 0) (ci := 10) rfl rfl hv0 (shape_ord hv0).1 cwV_RX8_85 ⟨Nat.le_of_ble_eq_true rfl, Nat.le_of_ble_eq_true rfl⟩ (T_X8_sets hfl fl _ _ _ _ hv0 _ h5) rfl rfl rfl (Nat.le_of_ble_eq_true rfl) dX8_setRate_48 ?_
    refine E_goto (tgt := 55) rfl dX8_setRate_51 ?_
    exact E_iret (Or.inl rfl) rfl (by cases hF; exact hr) dX8_setRate_55
set_option maxHeartbeats 4000000 in
set_option maxRecDepth 100000 in
theorem T_X8_setRate {l : Launch} (hfl : l.stackTraces = false) (fl : Nat) (v0 : Nat) (v1 : Int32) (v2 : Int32) (s : Mem) (hv0 : shape v0 = some (.inl 10)) (ρ : (Int32 × Mem)) (hF : F_X8_setRate fl v0 v1 v2 s = some ρ) : MetN l X_X8_setRate false NF s [.ref v0, .int v1, .int v2] (.inr (some (.int ρ.1)), NF, ρ.2) := by
  unfold F_X8_setRate at hF
  obtain ⟨r, hr⟩ : ∃ r : Rs, r = (.inr (some (.int ρ.1)), NF, ρ.2) := ⟨_, rfl⟩
  rw [← hr]
  refine met_of_E rfl rfl (by decide +kernel) hfl rfl (Nat.le_of_ble_eq_true rfl) ?_
  show E l X_X8_setRate r false NF s 0 0 0 [(0, .ref v0), (1, .int v1), (2, .int v2)] []
  refine E_aload_n (j := 0) (i := 0) (q := 0) rfl rfl dX8_setRate_0 ?_
  refine E_aload_n (j := 0) (i := 0) (q := 0) rfl rfl dX8_setRate_1 ?_
  refine E_iload_n (j := 1) (i := 1) (q := 1) rfl rfl dX8_setRate_2 ?_
  obtain ⟨q6, h7, hF⟩ := bd_inv hF
  refine E_callV (na := 1) (As := [.int v1]) (S := [.ref v0]) (kc := 0) (ks := 0) (ci := 10) rfl rfl hv0 (shape_ord hv0).1 cwV_RX8_59 ⟨Nat.le_of_ble_eq_true rfl, Nat.le_of_ble_eq_true rfl⟩ (T_X8_isPitch hfl fl _ _ _ hv0 _ h7) rfl rfl rfl (Nat.le_of_ble_eq_true rfl) dX8_setRate_3 ?_
  refine E_if_ne (tgt := 13) rfl dX8_setRate_6 (fun c8 => ?_) (fun c8 => ?_)
  · have hF := ite_f hF c8
    refine E_iload_n (j := 2) (i := 2) (q := 2) rfl rfl dX8_setRate_13 ?_
    refine E_iconst (v := (1 : Int32)) rfl dX8_setRate_14 ?_
    refine E_bipush (v := (99 : Int32)) rfl dX8_setRate_15 ?_
    obtain ⟨q9, h10, hF⟩ := bd_inv hF
    refine E_callS (na := 3) (As := [.int v2, .int (1 : Int32), .int (99 : Int32)]) (S := [.ref v0]) (kc := 0) (ks := 0) cwS_RX8_52 ⟨Nat.le_of_ble_eq_true rfl, Nat.le_of_ble_eq_true rfl⟩ (T_X8_in hfl fl _ _ _ _  _ h10) rfl rfl rfl (Nat.le_of_ble_eq_true rfl) dX8_setRate_17 ?_
    refine E_if_eq (tgt := 27) rfl dX8_setRate_20 (fun c11 => ?_) (fun c11 => ?_)
    · have hF := ite_t hF c11
      refine E_iconst (v := (2 : Int32)) rfl dX8_setRate_27 ?_
      refine E_sub [0, 1, 2] rfl ?_
      exact T_X8_setRate_28 hfl fl hr  _ _ _ _ _ _ hv0 hv0 hF
    · have hF := ite_f hF c11
      refine E_iconst (v := (0 : Int32)) rfl dX8_setRate_23 ?_
      refine E_goto (tgt := 28) rfl dX8_setRate_24 ?_
      refine E_sub [0, 1, 2] rfl ?_
      exact T_X8_setRate_28 hfl fl hr  _ _ _ _ _ _ hv0 hv0 hF
  · have hF := ite_t hF c8
    refine E_iconst (v := (1 : Int32)) rfl dX8_setRate_9 ?_
    refine E_goto (tgt := 28) rfl dX8_setRate_10 ?_
    refine E_sub [0, 1, 2] rfl ?_
    exact T_X8_setRate_28 hfl fl hr  _ _ _ _ _ _ hv0 hv0 hF
set_option maxHeartbeats 4000000 in
set_option maxRecDepth 100000 in
theorem T_X8_setGap_15 {l : Launch} (hfl : l.stackTraces = false) (fl : Nat) {r : Rs} {ρ : (Int32 × Mem)} (hr : r = (.inr (some (.int ρ.1)), NF, ρ.2)) (v0 : Nat) (v1 : Int32) (w0 : Nat) (w1 : Int32) (s : Mem) (hv0 : shape v0 = some (.inl 10)) (hw0 : shape w0 = some (.inl 10)) (hF : B_X8_setGap_15 fl v0 v1 w0 w1 s = some ρ) : E l X_X8_setGap r false NF s 0 0 15 [(0, .ref v0), (1, .int v1)] [.int w1, .ref w0] := by
  unfold B_X8_setGap_15 at hF
  refine pf_RX8_42 rfl hw0 (shape_ord hw0).1 dX8_setGap_15 ?_
  obtain ⟨m1, e2, hF⟩ := nx_inv hF
  refine E_mem e2 ?_
  refine E_aload_n (j := 0) (i := 0) (q := 0) rfl rfl dX8_setGap_18 ?_
  refine gf_RX8_42 rfl hv0 (shape_ord hv0).1 dX8_setGap_19 ?_
  refine E_if_ne (tgt := 34) rfl dX8_setGap_22 (fun c3 => ?_) (fun c3 => ?_)
  · have hF := ite_f hF c3
    refine E_iconst (v := (0 : Int32)) rfl dX8_setGap_34 ?_
    exact E_iret (Or.inl rfl) rfl (by cases hF; exact hr) dX8_setGap_35
  · have hF := ite_t hF c3
    refine E_aload_n (j := 0) (i := 0) (q := 0) rfl rfl dX8_setGap_25 ?_
    refine E_iconst (v := (4 : Int32)) rfl dX8_setGap_26 ?_
    refine E_iload_n (j := 1) (i := 1) (q := 1) rfl rfl dX8_setGap_27 ?_
    obtain ⟨q4, h5, hF⟩ := bd_inv hF
    refine E_callV (na := 2) (As := [.int (4 : Int32), .int v1]) (S := []) (kc := 0) (ks := 0) (ci := 10) rfl rfl hv0 (shape_ord hv0).1 cwV_RX8_85 ⟨Nat.le_of_ble_eq_true rfl, Nat.le_of_ble_eq_true rfl⟩ (T_X8_sets hfl fl _ _ _ _ hv0 _ h5) rfl rfl rfl (Nat.le_of_ble_eq_true rfl) dX8_setGap_28 ?_
    refine E_goto (tgt := 35) rfl dX8_setGap_31 ?_
    exact E_iret (Or.inl rfl) rfl (by cases hF; exact hr) dX8_setGap_35
set_option maxHeartbeats 4000000 in
set_option maxRecDepth 100000 in
theorem T_X8_setGap {l : Launch} (hfl : l.stackTraces = false) (fl : Nat) (v0 : Nat) (v1 : Int32) (s : Mem) (hv0 : shape v0 = some (.inl 10)) (ρ : (Int32 × Mem)) (hF : F_X8_setGap fl v0 v1 s = some ρ) : MetN l X_X8_setGap false NF s [.ref v0, .int v1] (.inr (some (.int ρ.1)), NF, ρ.2) := by
  unfold F_X8_setGap at hF
  obtain ⟨r, hr⟩ : ∃ r : Rs, r = (.inr (some (.int ρ.1)), NF, ρ.2) := ⟨_, rfl⟩
  rw [← hr]
  refine met_of_E rfl rfl (by decide +kernel) hfl rfl (Nat.le_of_ble_eq_true rfl) ?_
  show E l X_X8_setGap r false NF s 0 0 0 [(0, .ref v0), (1, .int v1)] []
  refine E_aload_n (j := 0) (i := 0) (q := 0) rfl rfl dX8_setGap_0 ?_
  refine E_iload_n (j := 1) (i := 1) (q := 1) rfl rfl dX8_setGap_1 ?_
  refine E_iconst (v := (0 : Int32)) rfl dX8_setGap_2 ?_
  refine E_iconst (v := (5 : Int32)) rfl dX8_setGap_3 ?_
  obtain ⟨q6, h7, hF⟩ := bd_inv hF
  refine E_callS (na := 3) (As := [.int v1, .int (0 : Int32), .int (5 : Int32)]) (S := [.ref v0]) (kc := 0) (ks := 0) cwS_RX8_52 ⟨Nat.le_of_ble_eq_true rfl, Nat.le_of_ble_eq_true rfl⟩ (T_X8_in hfl fl _ _ _ _  _ h7) rfl rfl rfl (Nat.le_of_ble_eq_true rfl) dX8_setGap_4 ?_
  refine E_if_eq (tgt := 14) rfl dX8_setGap_7 (fun c8 => ?_) (fun c8 => ?_)
  · have hF := ite_t hF c8
    refine E_iconst (v := (1 : Int32)) rfl dX8_setGap_14 ?_
    refine E_sub [0, 1] rfl ?_
    exact T_X8_setGap_15 hfl fl hr  _ _ _ _ _ hv0 hv0 hF
  · have hF := ite_f hF c8
    refine E_iconst (v := (0 : Int32)) rfl dX8_setGap_10 ?_
    refine E_goto (tgt := 15) rfl dX8_setGap_11 ?_
    refine E_sub [0, 1] rfl ?_
    exact T_X8_setGap_15 hfl fl hr  _ _ _ _ _ hv0 hv0 hF
set_option maxHeartbeats 4000000 in
set_option maxRecDepth 100000 in
theorem T_X8_addSeason_47 {l : Launch} (hfl : l.stackTraces = false) (fl : Nat) {r : Rs} {ρ : (Int32 × Mem)} (hr : r = (.inr (some (.int ρ.1)), NF, ρ.2)) (v0 : Nat) (v1 : Int32) (v2 : Int32) (v3 : Int32) (w0 : Nat) (w1 : Int32) (s : Mem) (hv0 : shape v0 = some (.inl 10)) (hw0 : shape w0 = some (.inl 10)) (hF : B_X8_addSeason_47 fl v0 v1 v2 v3 w0 w1 s = some ρ) : E l X_X8_addSeason r false NF s 0 0 47 [(0, .ref v0), (1, .int v1), (2, .int v2), (3, .int v3)] [.int w1, .ref w0] := by
  unfold B_X8_addSeason_47 at hF
  refine pf_RX8_42 rfl hw0 (shape_ord hw0).1 dX8_addSeason_47 ?_
  obtain ⟨m1, e2, hF⟩ := nx_inv hF
  refine E_mem e2 ?_
  refine E_aload_n (j := 0) (i := 0) (q := 0) rfl rfl dX8_addSeason_50 ?_
  refine gf_RX8_42 rfl hv0 (shape_ord hv0).1 dX8_addSeason_51 ?_
  refine E_if_eq (tgt := 59) rfl dX8_addSeason_54 (fun c3 => ?_) (fun c3 => ?_)
  · have hF := ite_t hF c3
    refine E_aload_n (j := 0) (i := 0) (q := 0) rfl rfl dX8_addSeason_59 ?_
    obtain ⟨q4, h5, hF⟩ := bd_inv hF
    refine E_callV (na := 0) (As := []) (S := []) (kc := 0) (ks := 0) (ci := 10) rfl rfl hv0 (shape_ord hv0).1 cwV_RX8_56 ⟨Nat.le_of_ble_eq_true rfl, Nat.le_of_ble_eq_true rfl⟩ (T_X8_keeps hfl fl _ _ hv0 _ h5) rfl rfl rfl (Nat.le_of_ble_eq_true rfl) dX8_addSeason_60 ?_
    refine E_bipush (v := (38 : Int32)) rfl dX8_addSeason_63 ?_
    refine E_iconst (v := (3 : Int32)) rfl dX8_addSeason_65 ?_
    refine E_aload_n (j := 0) (i := 0) (q := 0) rfl rfl dX8_addSeason_66 ?_
    obtain ⟨r6, h7, hF⟩ := bd_inv hF
    have h7 := ldA_inv h7
    refine gf_RX8_9 rfl hv0 (shape_ord hv0).1 h7.1 dX8_addSeason_67 ?_
    refine E_iconst (v := (2 : Int32)) rfl dX8_addSeason_70 ?_
    obtain ⟨h8, hF⟩ := gd_inv hF
    refine E_iald _ h7.2 (shape_ord h7.2).1 h8 dX8_addSeason_71 ?_
    refine E_imul dX8_addSeason_72 ?_
    refine E_iadd dX8_addSeason_73 ?_
    refine E_istore (L' := [(4, .int ((38 : Int32) + ((3 : Int32) * (gI q4 r6.1 (2 : Int32).toNatClampNeg)))), (0, .ref v0), (1, .int v1), (2, .int v2), (3, .int v3)]) (Nat.le_of_ble_eq_true rfl) rfl dX8_addSeason_74 ?_
    refine E_aload_n (j := 0) (i := 0) (q := 1) rfl rfl dX8_addSeason_76 ?_
    obtain ⟨r9, h10, hF⟩ := bd_inv hF
    have h10 := ldA_inv h10
    refine gf_RX8_9 rfl hv0 (shape_ord hv0).1 h10.1 dX8_addSeason_77 ?_
    refine E_iload (q := 0) rfl dX8_addSeason_80 ?_
    refine E_iload_n (j := 1) (i := 1) (q := 2) rfl rfl dX8_addSeason_82 ?_
    obtain ⟨h11, hF⟩ := gd_inv hF
    refine E_iast _ h10.2 (shape_ord h10.2).1 h11 dX8_addSeason_83 ?_
    obtain ⟨m12, e13, hF⟩ := nx_inv hF
    refine E_mem e13 ?_
    refine E_aload_n (j := 0) (i := 0) (q := 1) rfl rfl dX8_addSeason_84 ?_
    obtain ⟨r14, h15, hF⟩ := bd_inv hF
    have h15 := ldA_inv h15
    refine gf_RX8_9 rfl hv0 (shape_ord hv0).1 h15.1 dX8_addSeason_85 ?_
    refine E_iload (q := 0) rfl dX8_addSeason_88 ?_
    refine E_iconst (v := (1 : Int32)) rfl dX8_addSeason_90 ?_
    refine E_iadd dX8_addSeason_91 ?_
    refine E_iload_n (j := 2) (i := 2) (q := 3) rfl rfl dX8_addSeason_92 ?_
    obtain ⟨h16, hF⟩ := gd_inv hF
    refine E_iast _ h15.2 (shape_ord h15.2).1 h16 dX8_addSeason_93 ?_
    obtain ⟨m17, e18, hF⟩ := nx_inv hF
    refine E_mem e18 ?_
    refine E_aload_n (j := 0) (i := 0) (q := 1) rfl rfl dX8_addSeason_94 ?_
    obtain ⟨r19, h20, hF⟩ := bd_inv hF
    have h20 := ldA_inv h20
    refine gf_RX8_9 rfl hv0 (shape_ord hv0).1 h20.1 dX8_addSeason_95 ?_
    refine E_iload (q := 0) rfl dX8_addSeason_98 ?_
    refine E_iconst (v := (2 : Int32)) rfl dX8_addSeason_100 ?_
    refine E_iadd dX8_addSeason_101 ?_
    refine E_iload_n (j := 3) (i := 3) (q := 4) rfl rfl dX8_addSeason_102 ?_
    obtain ⟨h21, hF⟩ := gd_inv hF
    refine E_iast _ h20.2 (shape_ord h20.2).1 h21 dX8_addSeason_103 ?_
    obtain ⟨m22, e23, hF⟩ := nx_inv hF
    refine E_mem e23 ?_
    refine E_aload_n (j := 0) (i := 0) (q := 1) rfl rfl dX8_addSeason_104 ?_
    obtain ⟨r24, h25, hF⟩ := bd_inv hF
    have h25 := ldA_inv h25
    refine gf_RX8_9 rfl hv0 (shape_ord hv0).1 h25.1 dX8_addSeason_105 ?_
    refine E_iconst (v := (2 : Int32)) rfl dX8_addSeason_108 ?_
    refine E_dup2 rfl rfl dX8_addSeason_109 ?_
    obtain ⟨h26, hF⟩ := gd_inv hF
    refine E_iald _ h25.2 (shape_ord h25.2).1 h26 dX8_addSeason_110 ?_
    refine E_iconst (v := (1 : Int32)) rfl dX8_addSeason_111 ?_
    refine E_iadd dX8_addSeason_112 ?_
    obtain ⟨h27, hF⟩ := gd_inv hF
    refine E_iast _ h25.2 (shape_ord h25.2).1 h27 dX8_addSeason_113 ?_
    obtain ⟨m28, e29, hF⟩ := nx_inv hF
    refine E_mem e29 ?_
    refine E_aload_n (j := 0) (i := 0) (q := 1) rfl rfl dX8_addSeason_114 ?_
    obtain ⟨r30, h31, hF⟩ := bd_inv hF
    have h31 := ldA_inv h31
    refine gf_RX8_9 rfl hv0 (shape_ord hv0).1 h31.1 dX8_addSeason_115 ?_
    refine E_iconst (v := (2 : Int32)) rfl dX8_addSeason_118 ?_
    obtain ⟨h32, hF⟩ := gd_inv hF
    refine E_iald _ h31.2 (shape_ord h31.2).1 h32 dX8_addSeason_119 ?_
    refine E_iconst (v := (1 : Int32)) rfl dX8_addSeason_120 ?_
    refine E_isub dX8_addSeason_121 ?_
    exact E_iret (Or.inl rfl) rfl (by cases hF; exact hr) dX8_addSeason_122
  · have hF := ite_f hF c3
    refine E_iconst (v := (0 : Int32)) rfl dX8_addSeason_57 ?_
    exact E_iret (Or.inl rfl) rfl (by cases hF; exact hr) dX8_addSeason_58
set_option maxHeartbeats 4000000 in
set_option maxRecDepth 100000 in
theorem T_X8_addSeason_28 {l : Launch} (hfl : l.stackTraces = false) (fl : Nat) {r : Rs} {ρ : (Int32 × Mem)} (hr : r = (.inr (some (.int ρ.1)), NF, ρ.2)) (v0 : Nat) (v1 : Int32) (v2 : Int32) (v3 : Int32) (w0 : Nat) (s : Mem) (hv0 : shape v0 = some (.inl 10)) (hw0 : shape w0 = some (.inl 10)) (hF : B_X8_addSeason_28 fl v0 v1 v2 v3 w0 s = some ρ) : E l X_X8_addSeason r false NF s 0 0 28 [(0, .ref v0), (1, .int v1), (2, .int v2), (3, .int v3)] [.ref w0] := by
  unfold B_X8_addSeason_28 at hF
  refine E_iconst (v := (1 : Int32)) rfl dX8_addSeason_28 ?_
  refine E_goto (tgt := 47) rfl dX8_addSeason_29 ?_
  refine E_sub [0, 1, 2, 3] rfl ?_
  exact T_X8_addSeason_47 hfl fl hr  _ _ _ _ _ _ _ hv0 hw0 hF
set_option maxHeartbeats 4000000 in
set_option maxRecDepth 100000 in
theorem T_X8_addSeason {l : Launch} (hfl : l.stackTraces = false) (fl : Nat) (v0 : Nat) (v1 : Int32) (v2 : Int32) (v3 : Int32) (s : Mem) (hv0 : shape v0 = some (.inl 10)) (ρ : (Int32 × Mem)) (hF : F_X8_addSeason fl v0 v1 v2 v3 s = some ρ) : MetN l X_X8_addSeason false NF s [.ref v0, .int v1, .int v2, .int v3] (.inr (some (.int ρ.1)), NF, ρ.2) := by
  unfold F_X8_addSeason at hF
  obtain ⟨r, hr⟩ : ∃ r : Rs, r = (.inr (some (.int ρ.1)), NF, ρ.2) := ⟨_, rfl⟩
  rw [← hr]
  refine met_of_E rfl rfl (by decide +kernel) hfl rfl (Nat.le_of_ble_eq_true rfl) ?_
  show E l X_X8_addSeason r false NF s 0 0 0 [(0, .ref v0), (1, .int v1), (2, .int v2), (3, .int v3)] []
  refine E_aload_n (j := 0) (i := 0) (q := 0) rfl rfl dX8_addSeason_0 ?_
  refine E_iload_n (j := 1) (i := 1) (q := 1) rfl rfl dX8_addSeason_1 ?_
  obtain ⟨q33, h34, hF⟩ := bd_inv hF
  refine E_callS (na := 1) (As := [.int v1]) (S := [.ref v0]) (kc := 0) (ks := 0) cwS_RX8_88 ⟨Nat.le_of_ble_eq_true rfl, Nat.le_of_ble_eq_true rfl⟩ (T_X8_isNight hfl fl _ _  _ h34) rfl rfl rfl (Nat.le_of_ble_eq_true rfl) dX8_addSeason_2 ?_
  refine E_if_eq (tgt := 28) rfl dX8_addSeason_5 (fun c35 => ?_) (fun c35 => ?_)
  · have hF := ite_t hF c35
    refine E_sub [0, 1, 2, 3] rfl ?_
    exact T_X8_addSeason_28 hfl fl hr  _ _ _ _ _ _ hv0 hv0 hF
  · have hF := ite_f hF c35
    refine E_iload_n (j := 2) (i := 2) (q := 2) rfl rfl dX8_addSeason_8 ?_
    refine E_iload_n (j := 1) (i := 1) (q := 1) rfl rfl dX8_addSeason_9 ?_
    refine E_bipush (v := (59 : Int32)) rfl dX8_addSeason_10 ?_
    obtain ⟨q36, h37, hF⟩ := bd_inv hF
    refine E_callS (na := 3) (As := [.int v2, .int v1, .int (59 : Int32)]) (S := [.ref v0]) (kc := 0) (ks := 0) cwS_RX8_52 ⟨Nat.le_of_ble_eq_true rfl, Nat.le_of_ble_eq_true rfl⟩ (T_X8_in hfl fl _ _ _ _  _ h37) rfl rfl rfl (Nat.le_of_ble_eq_true rfl) dX8_addSeason_12 ?_
    refine E_if_eq (tgt := 28) rfl dX8_addSeason_15 (fun c38 => ?_) (fun c38 => ?_)
    · have hF := ite_t hF c38
      refine E_sub [0, 1, 2, 3] rfl ?_
      exact T_X8_addSeason_28 hfl fl hr  _ _ _ _ _ _ hv0 hv0 hF
    · have hF := ite_f hF c38
      refine E_iload_n (j := 3) (i := 3) (q := 3) rfl rfl dX8_addSeason_18 ?_
      refine E_iconst (v := (1 : Int32)) rfl dX8_addSeason_19 ?_
      refine E_bipush (v := (14 : Int32)) rfl dX8_addSeason_20 ?_
      obtain ⟨q39, h40, hF⟩ := bd_inv hF
      refine E_callS (na := 3) (As := [.int v3, .int (1 : Int32), .int (14 : Int32)]) (S := [.ref v0]) (kc := 0) (ks := 0) cwS_RX8_52 ⟨Nat.le_of_ble_eq_true rfl, Nat.le_of_ble_eq_true rfl⟩ (T_X8_in hfl fl _ _ _ _  _ h40) rfl rfl rfl (Nat.le_of_ble_eq_true rfl) dX8_addSeason_22 ?_
      refine E_if_ne (tgt := 32) rfl dX8_addSeason_25 (fun c41 => ?_) (fun c41 => ?_)
      · have hF := ite_f hF c41
        refine E_aload_n (j := 0) (i := 0) (q := 0) rfl rfl dX8_addSeason_32 ?_
        obtain ⟨r42, h43, hF⟩ := bd_inv hF
        have h43 := ldA_inv h43
        refine gf_RX8_9 rfl hv0 (shape_ord hv0).1 h43.1 dX8_addSeason_33 ?_
        refine E_iconst (v := (2 : Int32)) rfl dX8_addSeason_36 ?_
        obtain ⟨h44, hF⟩ := gd_inv hF
        refine E_iald _ h43.2 (shape_ord h43.2).1 h44 dX8_addSeason_37 ?_
        refine E_iconst (v := (4 : Int32)) rfl dX8_addSeason_38 ?_
        refine E_icmp_ne (tgt := 46) rfl dX8_addSeason_39 (fun c45 => ?_) (fun c45 => ?_)
        · have hF := ite_f hF c45
          refine E_iconst (v := (0 : Int32)) rfl dX8_addSeason_46 ?_
          refine E_sub [0, 1, 2, 3] rfl ?_
          exact T_X8_addSeason_47 hfl fl hr  _ _ _ _ _ _ _ hv0 hv0 hF
        · have hF := ite_t hF c45
          refine E_iconst (v := (2 : Int32)) rfl dX8_addSeason_42 ?_
          refine E_goto (tgt := 47) rfl dX8_addSeason_43 ?_
          refine E_sub [0, 1, 2, 3] rfl ?_
          exact T_X8_addSeason_47 hfl fl hr  _ _ _ _ _ _ _ hv0 hv0 hF
      · have hF := ite_t hF c41
        refine E_sub [0, 1, 2, 3] rfl ?_
        exact T_X8_addSeason_28 hfl fl hr  _ _ _ _ _ _ hv0 hv0 hF
set_option maxHeartbeats 4000000 in
set_option maxRecDepth 100000 in
theorem T_X8_dropSeason_55 {l : Launch} (hfl : l.stackTraces = false) (fl : Nat) {r : Rs} {ρ : (Int32 × Mem)} (hr : r = (.inr (some (.int ρ.1)), NF, ρ.2)) : ∀ (n : Nat) (v0 : Nat) (v2 : Int32) (s : Mem) (hv0 : shape v0 = some (.inl 10)), B_X8_dropSeason_55 fl n v0 v2 s = some ρ → E l X_X8_dropSeason r false NF s 0 0 55 [(0, .ref v0), (2, .int v2)] [] := by
  intro n
  induction n with
  | zero =>
    intro v0 v2 s hv0 hF
    cases hF
  | succ n ih =>
    intro v0 v2 s hv0 hF
    refine E_iload_n (j := 2) (i := 2) (q := 1) rfl rfl dX8_dropSeason_55 ?_
    refine E_bipush (v := (38 : Int32)) rfl dX8_dropSeason_56 ?_
    refine E_iconst (v := (3 : Int32)) rfl dX8_dropSeason_58 ?_
    refine E_aload_n (j := 0) (i := 0) (q := 0) rfl rfl dX8_dropSeason_59 ?_
    obtain ⟨r1, h2, hF⟩ := bd_inv hF
    have h2 := ldA_inv h2
    refine gf_RX8_9 rfl hv0 (shape_ord hv0).1 h2.1 dX8_dropSeason_60 ?_
    refine E_iconst (v := (2 : Int32)) rfl dX8_dropSeason_63 ?_
    obtain ⟨h3, hF⟩ := gd_inv hF
    refine E_iald _ h2.2 (shape_ord h2.2).1 h3 dX8_dropSeason_64 ?_
    refine E_imul dX8_dropSeason_65 ?_
    refine E_iadd dX8_dropSeason_66 ?_
    refine E_icmp_ge (tgt := 90) rfl dX8_dropSeason_67 (fun c4 => ?_) (fun c4 => ?_)
    · have hF := ite_t hF c4
      refine E_aload_n (j := 0) (i := 0) (q := 0) rfl rfl dX8_dropSeason_90 ?_
      obtain ⟨r5, h6, hF⟩ := bd_inv hF
      have h6 := ldA_inv h6
      refine gf_RX8_9 rfl hv0 (shape_ord hv0).1 h6.1 dX8_dropSeason_91 ?_
      refine E_iconst (v := (2 : Int32)) rfl dX8_dropSeason_94 ?_
      obtain ⟨h7, hF⟩ := gd_inv hF
      refine E_iald _ h6.2 (shape_ord h6.2).1 h7 dX8_dropSeason_95 ?_
      exact E_iret (Or.inl rfl) rfl (by cases hF; exact hr) dX8_dropSeason_96
    · have hF := ite_f hF c4
      refine E_aload_n (j := 0) (i := 0) (q := 0) rfl rfl dX8_dropSeason_70 ?_
      obtain ⟨r8, h9, hF⟩ := bd_inv hF
      have h9 := ldA_inv h9
      refine gf_RX8_9 rfl hv0 (shape_ord hv0).1 h9.1 dX8_dropSeason_71 ?_
      refine E_iload_n (j := 2) (i := 2) (q := 1) rfl rfl dX8_dropSeason_74 ?_
      refine E_aload_n (j := 0) (i := 0) (q := 0) rfl rfl dX8_dropSeason_75 ?_
      obtain ⟨r10, h11, hF⟩ := bd_inv hF
      have h11 := ldA_inv h11
      refine gf_RX8_9 rfl hv0 (shape_ord hv0).1 h11.1 dX8_dropSeason_76 ?_
      refine E_iload_n (j := 2) (i := 2) (q := 1) rfl rfl dX8_dropSeason_79 ?_
      refine E_iconst (v := (3 : Int32)) rfl dX8_dropSeason_80 ?_
      refine E_iadd dX8_dropSeason_81 ?_
      obtain ⟨h12, hF⟩ := gd_inv hF
      refine E_iald _ h11.2 (shape_ord h11.2).1 h12 dX8_dropSeason_82 ?_
      obtain ⟨h13, hF⟩ := gd_inv hF
      refine E_iast _ h9.2 (shape_ord h9.2).1 h13 dX8_dropSeason_83 ?_
      obtain ⟨m14, e15, hF⟩ := nx_inv hF
      refine E_mem e15 ?_
      refine E_iinc (q := 1) (v := (v2 + (1 : Int32))) (L' := [(2, .int (v2 + (1 : Int32))), (0, .ref v0)]) rfl rfl (Nat.le_of_ble_eq_true rfl) rfl dX8_dropSeason_84 ?_
      refine E_goto (tgt := 55) rfl dX8_dropSeason_87 ?_
      refine E_sub [1, 0] rfl ?_
      exact ih _ _ _ hv0 hF
set_option maxHeartbeats 4000000 in
set_option maxRecDepth 100000 in
theorem T_X8_dropSeason_22 {l : Launch} (hfl : l.stackTraces = false) (fl : Nat) {r : Rs} {ρ : (Int32 × Mem)} (hr : r = (.inr (some (.int ρ.1)), NF, ρ.2)) (v0 : Nat) (v1 : Int32) (w0 : Nat) (w1 : Int32) (s : Mem) (hv0 : shape v0 = some (.inl 10)) (hw0 : shape w0 = some (.inl 10)) (hF : B_X8_dropSeason_22 fl v0 v1 w0 w1 s = some ρ) : E l X_X8_dropSeason r false NF s 0 0 22 [(0, .ref v0), (1, .int v1)] [.int w1, .ref w0] := by
  unfold B_X8_dropSeason_22 at hF
  refine pf_RX8_42 rfl hw0 (shape_ord hw0).1 dX8_dropSeason_22 ?_
  obtain ⟨m16, e17, hF⟩ := nx_inv hF
  refine E_mem e17 ?_
  refine E_aload_n (j := 0) (i := 0) (q := 0) rfl rfl dX8_dropSeason_25 ?_
  refine gf_RX8_42 rfl hv0 (shape_ord hv0).1 dX8_dropSeason_26 ?_
  refine E_if_eq (tgt := 34) rfl dX8_dropSeason_29 (fun c18 => ?_) (fun c18 => ?_)
  · have hF := ite_t hF c18
    refine E_aload_n (j := 0) (i := 0) (q := 0) rfl rfl dX8_dropSeason_34 ?_
    obtain ⟨q19, h20, hF⟩ := bd_inv hF
    refine E_callV (na := 0) (As := []) (S := []) (kc := 0) (ks := 0) (ci := 10) rfl rfl hv0 (shape_ord hv0).1 cwV_RX8_56 ⟨Nat.le_of_ble_eq_true rfl, Nat.le_of_ble_eq_true rfl⟩ (T_X8_keeps hfl fl _ _ hv0 _ h20) rfl rfl rfl (Nat.le_of_ble_eq_true rfl) dX8_dropSeason_35 ?_
    refine E_aload_n (j := 0) (i := 0) (q := 0) rfl rfl dX8_dropSeason_38 ?_
    obtain ⟨r21, h22, hF⟩ := bd_inv hF
    have h22 := ldA_inv h22
    refine gf_RX8_9 rfl hv0 (shape_ord hv0).1 h22.1 dX8_dropSeason_39 ?_
    refine E_iconst (v := (2 : Int32)) rfl dX8_dropSeason_42 ?_
    refine E_dup2 rfl rfl dX8_dropSeason_43 ?_
    obtain ⟨h23, hF⟩ := gd_inv hF
    refine E_iald _ h22.2 (shape_ord h22.2).1 h23 dX8_dropSeason_44 ?_
    refine E_iconst (v := (1 : Int32)) rfl dX8_dropSeason_45 ?_
    refine E_isub dX8_dropSeason_46 ?_
    obtain ⟨h24, hF⟩ := gd_inv hF
    refine E_iast _ h22.2 (shape_ord h22.2).1 h24 dX8_dropSeason_47 ?_
    obtain ⟨m25, e26, hF⟩ := nx_inv hF
    refine E_mem e26 ?_
    refine E_bipush (v := (38 : Int32)) rfl dX8_dropSeason_48 ?_
    refine E_iconst (v := (3 : Int32)) rfl dX8_dropSeason_50 ?_
    refine E_iload_n (j := 1) (i := 1) (q := 1) rfl rfl dX8_dropSeason_51 ?_
    refine E_imul dX8_dropSeason_52 ?_
    refine E_iadd dX8_dropSeason_53 ?_
    refine E_istore_n (j := 2) (i := 2) (L' := [(2, .int ((38 : Int32) + ((3 : Int32) * v1))), (0, .ref v0), (1, .int v1)]) rfl (Nat.le_of_ble_eq_true rfl) rfl dX8_dropSeason_54 ?_
    refine E_sub [1, 0] rfl ?_
    exact T_X8_dropSeason_55 hfl fl hr  fl _ _ _ hv0 hF
  · have hF := ite_f hF c18
    refine E_iconst (v := (0 : Int32)) rfl dX8_dropSeason_32 ?_
    exact E_iret (Or.inl rfl) rfl (by cases hF; exact hr) dX8_dropSeason_33
set_option maxHeartbeats 4000000 in
set_option maxRecDepth 100000 in
theorem T_X8_dropSeason {l : Launch} (hfl : l.stackTraces = false) (fl : Nat) (v0 : Nat) (v1 : Int32) (s : Mem) (hv0 : shape v0 = some (.inl 10)) (ρ : (Int32 × Mem)) (hF : F_X8_dropSeason fl v0 v1 s = some ρ) : MetN l X_X8_dropSeason false NF s [.ref v0, .int v1] (.inr (some (.int ρ.1)), NF, ρ.2) := by
  unfold F_X8_dropSeason at hF
  obtain ⟨r, hr⟩ : ∃ r : Rs, r = (.inr (some (.int ρ.1)), NF, ρ.2) := ⟨_, rfl⟩
  rw [← hr]
  refine met_of_E rfl rfl (by decide +kernel) hfl rfl (Nat.le_of_ble_eq_true rfl) ?_
  show E l X_X8_dropSeason r false NF s 0 0 0 [(0, .ref v0), (1, .int v1)] []
  refine E_aload_n (j := 0) (i := 0) (q := 0) rfl rfl dX8_dropSeason_0 ?_
  refine E_iload_n (j := 1) (i := 1) (q := 1) rfl rfl dX8_dropSeason_1 ?_
  refine E_iconst (v := (0 : Int32)) rfl dX8_dropSeason_2 ?_
  refine E_aload_n (j := 0) (i := 0) (q := 0) rfl rfl dX8_dropSeason_3 ?_
  obtain ⟨r27, h28, hF⟩ := bd_inv hF
  have h28 := ldA_inv h28
  refine gf_RX8_9 rfl hv0 (shape_ord hv0).1 h28.1 dX8_dropSeason_4 ?_
  refine E_iconst (v := (2 : Int32)) rfl dX8_dropSeason_7 ?_
  obtain ⟨h29, hF⟩ := gd_inv hF
  refine E_iald _ h28.2 (shape_ord h28.2).1 h29 dX8_dropSeason_8 ?_
  refine E_iconst (v := (1 : Int32)) rfl dX8_dropSeason_9 ?_
  refine E_isub dX8_dropSeason_10 ?_
  obtain ⟨q30, h31, hF⟩ := bd_inv hF
  refine E_callS (na := 3) (As := [.int v1, .int (0 : Int32), .int ((gI s r27.1 (2 : Int32).toNatClampNeg) - (1 : Int32))]) (S := [.ref v0]) (kc := 0) (ks := 0) cwS_RX8_52 ⟨Nat.le_of_ble_eq_true rfl, Nat.le_of_ble_eq_true rfl⟩ (T_X8_in hfl fl _ _ _ _  _ h31) rfl rfl rfl (Nat.le_of_ble_eq_true rfl) dX8_dropSeason_11 ?_
  refine E_if_eq (tgt := 21) rfl dX8_dropSeason_14 (fun c32 => ?_) (fun c32 => ?_)
  · have hF := ite_t hF c32
    refine E_iconst (v := (1 : Int32)) rfl dX8_dropSeason_21 ?_
    refine E_sub [0, 1] rfl ?_
    exact T_X8_dropSeason_22 hfl fl hr  _ _ _ _ _ hv0 hv0 hF
  · have hF := ite_f hF c32
    refine E_iconst (v := (0 : Int32)) rfl dX8_dropSeason_17 ?_
    refine E_goto (tgt := 22) rfl dX8_dropSeason_18 ?_
    refine E_sub [0, 1] rfl ?_
    exact T_X8_dropSeason_22 hfl fl hr  _ _ _ _ _ hv0 hv0 hF
set_option maxHeartbeats 4000000 in
set_option maxRecDepth 100000 in
theorem T_X8_season_35 {l : Launch} (hfl : l.stackTraces = false) (fl : Nat) {r : Rs} {ρ : (Int32 × Mem)} (hr : r = (.inr (some (.int ρ.1)), NF, ρ.2)) (v0 : Nat) (v1 : Int32) (v2 : Int32) (w0 : Nat) (w1 : Int32) (s : Mem) (hv0 : shape v0 = some (.inl 10)) (hw0 : shape w0 = some (.inl 10)) (hF : B_X8_season_35 fl v0 v1 v2 w0 w1 s = some ρ) : E l X_X8_season r false NF s 0 0 35 [(0, .ref v0), (1, .int v1), (2, .int v2)] [.int w1, .ref w0] := by
  unfold B_X8_season_35 at hF
  refine pf_RX8_42 rfl hw0 (shape_ord hw0).1 dX8_season_35 ?_
  obtain ⟨m1, e2, hF⟩ := nx_inv hF
  refine E_mem e2 ?_
  refine E_aload_n (j := 0) (i := 0) (q := 0) rfl rfl dX8_season_38 ?_
  refine gf_RX8_42 rfl hv0 (shape_ord hv0).1 dX8_season_39 ?_
  refine E_if_ne (tgt := 61) rfl dX8_season_42 (fun c3 => ?_) (fun c3 => ?_)
  · have hF := ite_f hF c3
    refine E_iconst (v := (0 : Int32)) rfl dX8_season_61 ?_
    exact E_iret (Or.inl rfl) rfl (by cases hF; exact hr) dX8_season_62
  · have hF := ite_t hF c3
    refine E_aload_n (j := 0) (i := 0) (q := 0) rfl rfl dX8_season_45 ?_
    obtain ⟨r4, h5, hF⟩ := bd_inv hF
    have h5 := ldA_inv h5
    refine gf_RX8_9 rfl hv0 (shape_ord hv0).1 h5.1 dX8_season_46 ?_
    refine E_bipush (v := (38 : Int32)) rfl dX8_season_49 ?_
    refine E_iconst (v := (3 : Int32)) rfl dX8_season_51 ?_
    refine E_iload_n (j := 1) (i := 1) (q := 1) rfl rfl dX8_season_52 ?_
    refine E_imul dX8_season_53 ?_
    refine E_iadd dX8_season_54 ?_
    refine E_iload_n (j := 2) (i := 2) (q := 2) rfl rfl dX8_season_55 ?_
    refine E_iadd dX8_season_56 ?_
    obtain ⟨h6, hF⟩ := gd_inv hF
    refine E_iald _ h5.2 (shape_ord h5.2).1 h6 dX8_season_57 ?_
    refine E_goto (tgt := 62) rfl dX8_season_58 ?_
    exact E_iret (Or.inl rfl) rfl (by cases hF; exact hr) dX8_season_62
set_option maxHeartbeats 4000000 in
set_option maxRecDepth 100000 in
theorem T_X8_season {l : Launch} (hfl : l.stackTraces = false) (fl : Nat) (v0 : Nat) (v1 : Int32) (v2 : Int32) (s : Mem) (hv0 : shape v0 = some (.inl 10)) (ρ : (Int32 × Mem)) (hF : F_X8_season fl v0 v1 v2 s = some ρ) : MetN l X_X8_season false NF s [.ref v0, .int v1, .int v2] (.inr (some (.int ρ.1)), NF, ρ.2) := by
  unfold F_X8_season at hF
  obtain ⟨r, hr⟩ : ∃ r : Rs, r = (.inr (some (.int ρ.1)), NF, ρ.2) := ⟨_, rfl⟩
  rw [← hr]
  refine met_of_E rfl rfl (by decide +kernel) hfl rfl (Nat.le_of_ble_eq_true rfl) ?_
  show E l X_X8_season r false NF s 0 0 0 [(0, .ref v0), (1, .int v1), (2, .int v2)] []
  refine E_aload_n (j := 0) (i := 0) (q := 0) rfl rfl dX8_season_0 ?_
  refine E_iload_n (j := 1) (i := 1) (q := 1) rfl rfl dX8_season_1 ?_
  refine E_iconst (v := (0 : Int32)) rfl dX8_season_2 ?_
  refine E_aload_n (j := 0) (i := 0) (q := 0) rfl rfl dX8_season_3 ?_
  obtain ⟨r7, h8, hF⟩ := bd_inv hF
  have h8 := ldA_inv h8
  refine gf_RX8_9 rfl hv0 (shape_ord hv0).1 h8.1 dX8_season_4 ?_
  refine E_iconst (v := (2 : Int32)) rfl dX8_season_7 ?_
  obtain ⟨h9, hF⟩ := gd_inv hF
  refine E_iald _ h8.2 (shape_ord h8.2).1 h9 dX8_season_8 ?_
  refine E_iconst (v := (1 : Int32)) rfl dX8_season_9 ?_
  refine E_isub dX8_season_10 ?_
  obtain ⟨q10, h11, hF⟩ := bd_inv hF
  refine E_callS (na := 3) (As := [.int v1, .int (0 : Int32), .int ((gI s r7.1 (2 : Int32).toNatClampNeg) - (1 : Int32))]) (S := [.ref v0]) (kc := 0) (ks := 0) cwS_RX8_52 ⟨Nat.le_of_ble_eq_true rfl, Nat.le_of_ble_eq_true rfl⟩ (T_X8_in hfl fl _ _ _ _  _ h11) rfl rfl rfl (Nat.le_of_ble_eq_true rfl) dX8_season_11 ?_
  refine E_if_ne (tgt := 21) rfl dX8_season_14 (fun c12 => ?_) (fun c12 => ?_)
  · have hF := ite_f hF c12
    refine E_iload_n (j := 2) (i := 2) (q := 2) rfl rfl dX8_season_21 ?_
    refine E_iconst (v := (0 : Int32)) rfl dX8_season_22 ?_
    refine E_iconst (v := (2 : Int32)) rfl dX8_season_23 ?_
    obtain ⟨q13, h14, hF⟩ := bd_inv hF
    refine E_callS (na := 3) (As := [.int v2, .int (0 : Int32), .int (2 : Int32)]) (S := [.ref v0]) (kc := 0) (ks := 0) cwS_RX8_52 ⟨Nat.le_of_ble_eq_true rfl, Nat.le_of_ble_eq_true rfl⟩ (T_X8_in hfl fl _ _ _ _  _ h14) rfl rfl rfl (Nat.le_of_ble_eq_true rfl) dX8_season_24 ?_
    refine E_if_eq (tgt := 34) rfl dX8_season_27 (fun c15 => ?_) (fun c15 => ?_)
    · have hF := ite_t hF c15
      refine E_iconst (v := (2 : Int32)) rfl dX8_season_34 ?_
      refine E_sub [0, 1, 2] rfl ?_
      exact T_X8_season_35 hfl fl hr  _ _ _ _ _ _ hv0 hv0 hF
    · have hF := ite_f hF c15
      refine E_iconst (v := (0 : Int32)) rfl dX8_season_30 ?_
      refine E_goto (tgt := 35) rfl dX8_season_31 ?_
      refine E_sub [0, 1, 2] rfl ?_
      exact T_X8_season_35 hfl fl hr  _ _ _ _ _ _ hv0 hv0 hF
  · have hF := ite_t hF c12
    refine E_iconst (v := (1 : Int32)) rfl dX8_season_17 ?_
    refine E_goto (tgt := 35) rfl dX8_season_18 ?_
    refine E_sub [0, 1, 2] rfl ?_
    exact T_X8_season_35 hfl fl hr  _ _ _ _ _ _ hv0 hv0 hF
set_option maxHeartbeats 4000000 in
set_option maxRecDepth 100000 in
theorem T_X8_asked_79 {l : Launch} (hfl : l.stackTraces = false) (fl : Nat) {r : Rs} {ρ : Int32} {s : Mem} (hr : r = (.inr (some (.int ρ)), NF, s)) {k5 : Nat → Int32 → Int32 → Int32 → Int32 → Option Int32} (hk5 : ∀ (v0 : Nat) (v1 : Int32) (v2 : Int32) (v3 : Int32) (v4 : Int32) (hv0 : shape v0 = some (.inl 10)), k5 v0 v1 v2 v3 v4 = some ρ → E l X_X8_asked r false NF s 0 0 5 [(0, .ref v0), (1, .int v1), (2, .int v2), (3, .int v3), (4, .int v4)] []) (v0 : Nat) (v1 : Int32) (v2 : Int32) (v4 : Int32) (w0 : Int32) (hv0 : shape v0 = some (.inl 10)) (hF : B_X8_asked_79 k5 fl s v0 v1 v2 v4 w0 = some ρ) : E l X_X8_asked r false NF s 0 0 79 [(0, .ref v0), (1, .int v1), (2, .int v2), (4, .int v4)] [.int w0] := by
  unfold B_X8_asked_79 at hF
  refine E_istore_n (j := 3) (i := 3) (L' := [(3, .int w0), (0, .ref v0), (1, .int v1), (2, .int v2), (4, .int v4)]) rfl (Nat.le_of_ble_eq_true rfl) rfl dX8_asked_79 ?_
  refine E_iinc (q := 4) (v := (v4 + (1 : Int32))) (L' := [(4, .int (v4 + (1 : Int32))), (3, .int w0), (0, .ref v0), (1, .int v1), (2, .int v2)]) rfl rfl (Nat.le_of_ble_eq_true rfl) rfl dX8_asked_80 ?_
  refine E_goto (tgt := 5) rfl dX8_asked_83 ?_
  refine E_sub [2, 3, 4, 1, 0] rfl ?_
  exact hk5 _ _ _ _ _ hv0 hF
set_option maxHeartbeats 4000000 in
set_option maxRecDepth 100000 in
theorem T_X8_asked_78 {l : Launch} (hfl : l.stackTraces = false) (fl : Nat) {r : Rs} {ρ : Int32} {s : Mem} (hr : r = (.inr (some (.int ρ)), NF, s)) {k5 : Nat → Int32 → Int32 → Int32 → Int32 → Option Int32} (hk5 : ∀ (v0 : Nat) (v1 : Int32) (v2 : Int32) (v3 : Int32) (v4 : Int32) (hv0 : shape v0 = some (.inl 10)), k5 v0 v1 v2 v3 v4 = some ρ → E l X_X8_asked r false NF s 0 0 5 [(0, .ref v0), (1, .int v1), (2, .int v2), (3, .int v3), (4, .int v4)] []) (v0 : Nat) (v1 : Int32) (v2 : Int32) (v3 : Int32) (v4 : Int32) (hv0 : shape v0 = some (.inl 10)) (hF : B_X8_asked_78 k5 fl s v0 v1 v2 v3 v4 = some ρ) : E l X_X8_asked r false NF s 0 0 78 [(0, .ref v0), (1, .int v1), (2, .int v2), (3, .int v3), (4, .int v4)] [] := by
  unfold B_X8_asked_78 at hF
  refine E_iload_n (j := 3) (i := 3) (q := 3) rfl rfl dX8_asked_78 ?_
  refine E_sub [0, 1, 2, 4] rfl ?_
  exact T_X8_asked_79 hfl fl hr hk5 _ _ _ _ _ hv0 hF
set_option maxHeartbeats 4000000 in
set_option maxRecDepth 100000 in
theorem T_X8_asked_5 {l : Launch} (hfl : l.stackTraces = false) (fl : Nat) {r : Rs} {ρ : Int32} {s : Mem} (hr : r = (.inr (some (.int ρ)), NF, s)) : ∀ (n : Nat) (v0 : Nat) (v1 : Int32) (v2 : Int32) (v3 : Int32) (v4 : Int32) (hv0 : shape v0 = some (.inl 10)), B_X8_asked_5 fl s n v0 v1 v2 v3 v4 = some ρ → E l X_X8_asked r false NF s 0 0 5 [(0, .ref v0), (1, .int v1), (2, .int v2), (3, .int v3), (4, .int v4)] [] := by
  intro n
  induction n with
  | zero =>
    intro v0 v1 v2 v3 v4 hv0 hF
    cases hF
  | succ n ih =>
    intro v0 v1 v2 v3 v4 hv0 hF
    refine E_iload (q := 4) rfl dX8_asked_5 ?_
    refine E_aload_n (j := 0) (i := 0) (q := 0) rfl rfl dX8_asked_7 ?_
    obtain ⟨r1, h2, hF⟩ := bd_inv hF
    have h2 := ldA_inv h2
    refine gf_RX8_9 rfl hv0 (shape_ord hv0).1 h2.1 dX8_asked_8 ?_
    refine E_iconst (v := (2 : Int32)) rfl dX8_asked_11 ?_
    obtain ⟨h3, hF⟩ := gd_inv hF
    refine E_iald _ h2.2 (shape_ord h2.2).1 h3 dX8_asked_12 ?_
    refine E_icmp_ge (tgt := 86) rfl dX8_asked_13 (fun c4 => ?_) (fun c4 => ?_)
    · have hF := ite_t hF c4
      refine E_iload_n (j := 3) (i := 3) (q := 3) rfl rfl dX8_asked_86 ?_
      exact E_iret (Or.inl rfl) rfl (by cases hF; exact hr) dX8_asked_87
    · have hF := ite_f hF c4
      refine E_bipush (v := (38 : Int32)) rfl dX8_asked_16 ?_
      refine E_iconst (v := (3 : Int32)) rfl dX8_asked_18 ?_
      refine E_iload (q := 4) rfl dX8_asked_19 ?_
      refine E_imul dX8_asked_21 ?_
      refine E_iadd dX8_asked_22 ?_
      refine E_istore (L' := [(5, .int ((38 : Int32) + ((3 : Int32) * v4))), (0, .ref v0), (1, .int v1), (2, .int v2), (3, .int v3), (4, .int v4)]) (Nat.le_of_ble_eq_true rfl) rfl dX8_asked_23 ?_
      refine E_aload_n (j := 0) (i := 0) (q := 1) rfl rfl dX8_asked_25 ?_
      obtain ⟨r5, h6, hF⟩ := bd_inv hF
      have h6 := ldA_inv h6
      refine gf_RX8_9 rfl hv0 (shape_ord hv0).1 h6.1 dX8_asked_26 ?_
      refine E_iload (q := 0) rfl dX8_asked_29 ?_
      obtain ⟨h7, hF⟩ := gd_inv hF
      refine E_iald _ h6.2 (shape_ord h6.2).1 h7 dX8_asked_31 ?_
      refine E_iload_n (j := 1) (i := 1) (q := 2) rfl rfl dX8_asked_32 ?_
      refine E_iload_n (j := 2) (i := 2) (q := 3) rfl rfl dX8_asked_33 ?_
      refine E_iadd dX8_asked_34 ?_
      refine E_iconst (v := (1 : Int32)) rfl dX8_asked_35 ?_
      refine E_isub dX8_asked_36 ?_
      refine E_icmp_gt (tgt := 78) rfl dX8_asked_37 (fun c8 => ?_) (fun c8 => ?_)
      · have hF := ite_t hF c8
        refine E_sub [1, 2, 3, 4, 5] rfl ?_
        exact T_X8_asked_78 hfl fl hr ih _ _ _ _ _ hv0 hF
      · have hF := ite_f hF c8
        refine E_iload_n (j := 1) (i := 1) (q := 2) rfl rfl dX8_asked_40 ?_
        refine E_aload_n (j := 0) (i := 0) (q := 1) rfl rfl dX8_asked_41 ?_
        obtain ⟨r9, h10, hF⟩ := bd_inv hF
        have h10 := ldA_inv h10
        refine gf_RX8_9 rfl hv0 (shape_ord hv0).1 h10.1 dX8_asked_42 ?_
        refine E_iload (q := 0) rfl dX8_asked_45 ?_
        refine E_iconst (v := (1 : Int32)) rfl dX8_asked_47 ?_
        refine E_iadd dX8_asked_48 ?_
        obtain ⟨h11, hF⟩ := gd_inv hF
        refine E_iald _ h10.2 (shape_ord h10.2).1 h11 dX8_asked_49 ?_
        refine E_icmp_gt (tgt := 78) rfl dX8_asked_50 (fun c12 => ?_) (fun c12 => ?_)
        · have hF := ite_t hF c12
          refine E_sub [1, 2, 3, 4, 5] rfl ?_
          exact T_X8_asked_78 hfl fl hr ih _ _ _ _ _ hv0 hF
        · have hF := ite_f hF c12
          refine E_aload_n (j := 0) (i := 0) (q := 1) rfl rfl dX8_asked_53 ?_
          obtain ⟨r13, h14, hF⟩ := bd_inv hF
          have h14 := ldA_inv h14
          refine gf_RX8_9 rfl hv0 (shape_ord hv0).1 h14.1 dX8_asked_54 ?_
          refine E_iload (q := 0) rfl dX8_asked_57 ?_
          refine E_iconst (v := (2 : Int32)) rfl dX8_asked_59 ?_
          refine E_iadd dX8_asked_60 ?_
          obtain ⟨h15, hF⟩ := gd_inv hF
          refine E_iald _ h14.2 (shape_ord h14.2).1 h15 dX8_asked_61 ?_
          refine E_iload_n (j := 3) (i := 3) (q := 4) rfl rfl dX8_asked_62 ?_
          refine E_icmp_le (tgt := 78) rfl dX8_asked_63 (fun c16 => ?_) (fun c16 => ?_)
          · have hF := ite_t hF c16
            refine E_sub [1, 2, 3, 4, 5] rfl ?_
            exact T_X8_asked_78 hfl fl hr ih _ _ _ _ _ hv0 hF
          · have hF := ite_f hF c16
            refine E_aload_n (j := 0) (i := 0) (q := 1) rfl rfl dX8_asked_66 ?_
            obtain ⟨r17, h18, hF⟩ := bd_inv hF
            have h18 := ldA_inv h18
            refine gf_RX8_9 rfl hv0 (shape_ord hv0).1 h18.1 dX8_asked_67 ?_
            refine E_iload (q := 0) rfl dX8_asked_70 ?_
            refine E_iconst (v := (2 : Int32)) rfl dX8_asked_72 ?_
            refine E_iadd dX8_asked_73 ?_
            obtain ⟨h19, hF⟩ := gd_inv hF
            refine E_iald _ h18.2 (shape_ord h18.2).1 h19 dX8_asked_74 ?_
            refine E_goto (tgt := 79) rfl dX8_asked_75 ?_
            refine E_sub [1, 2, 3, 5] rfl ?_
            exact T_X8_asked_79 hfl fl hr ih _ _ _ _ _ hv0 hF
set_option maxHeartbeats 4000000 in
set_option maxRecDepth 100000 in
theorem T_X8_asked {l : Launch} (hfl : l.stackTraces = false) (fl : Nat) (v0 : Nat) (v1 : Int32) (v2 : Int32) (s : Mem) (hv0 : shape v0 = some (.inl 10)) (ρ : Int32) (hF : F_X8_asked fl v0 v1 v2 s = some ρ) : MetN l X_X8_asked false NF s [.ref v0, .int v1, .int v2] (.inr (some (.int ρ)), NF, s) := by
  unfold F_X8_asked at hF
  obtain ⟨r, hr⟩ : ∃ r : Rs, r = (.inr (some (.int ρ)), NF, s) := ⟨_, rfl⟩
  rw [← hr]
  refine met_of_E rfl rfl (by decide +kernel) hfl rfl (Nat.le_of_ble_eq_true rfl) ?_
  show E l X_X8_asked r false NF s 0 0 0 [(0, .ref v0), (1, .int v1), (2, .int v2)] []
  refine E_iconst (v := (1 : Int32)) rfl dX8_asked_0 ?_
  refine E_istore_n (j := 3) (i := 3) (L' := [(3, .int (1 : Int32)), (0, .ref v0), (1, .int v1), (2, .int v2)]) rfl (Nat.le_of_ble_eq_true rfl) rfl dX8_asked_1 ?_
  refine E_iconst (v := (0 : Int32)) rfl dX8_asked_2 ?_
  refine E_istore (L' := [(4, .int (0 : Int32)), (3, .int (1 : Int32)), (0, .ref v0), (1, .int v1), (2, .int v2)]) (Nat.le_of_ble_eq_true rfl) rfl dX8_asked_3 ?_
  refine E_sub [2, 3, 4, 1, 0] rfl ?_
  exact T_X8_asked_5 hfl fl hr  fl _ _ _ _ _ hv0 hF
set_option maxHeartbeats 4000000 in
set_option maxRecDepth 100000 in
theorem T_X8_leastStay_34 {l : Launch} (hfl : l.stackTraces = false) (fl : Nat) {r : Rs} {ρ : (Int32 × Mem)} (hr : r = (.inr (some (.int ρ.1)), NF, ρ.2)) (v0 : Nat) (v1 : Int32) (v2 : Int32) (w0 : Nat) (w1 : Int32) (s : Mem) (hv0 : shape v0 = some (.inl 10)) (hw0 : shape w0 = some (.inl 10)) (hF : B_X8_leastStay_34 fl v0 v1 v2 w0 w1 s = some ρ) : E l X_X8_leastStay r false NF s 0 0 34 [(0, .ref v0), (1, .int v1), (2, .int v2)] [.int w1, .ref w0] := by
  unfold B_X8_leastStay_34 at hF
  refine pf_RX8_42 rfl hw0 (shape_ord hw0).1 dX8_leastStay_34 ?_
  obtain ⟨m1, e2, hF⟩ := nx_inv hF
  refine E_mem e2 ?_
  refine E_aload_n (j := 0) (i := 0) (q := 0) rfl rfl dX8_leastStay_37 ?_
  refine gf_RX8_42 rfl hv0 (shape_ord hv0).1 dX8_leastStay_38 ?_
  refine E_if_ne (tgt := 53) rfl dX8_leastStay_41 (fun c3 => ?_) (fun c3 => ?_)
  · have hF := ite_f hF c3
    refine E_iconst (v := (0 : Int32)) rfl dX8_leastStay_53 ?_
    exact E_iret (Or.inl rfl) rfl (by cases hF; exact hr) dX8_leastStay_54
  · have hF := ite_t hF c3
    refine E_aload_n (j := 0) (i := 0) (q := 0) rfl rfl dX8_leastStay_44 ?_
    refine E_iload_n (j := 1) (i := 1) (q := 1) rfl rfl dX8_leastStay_45 ?_
    refine E_iload_n (j := 2) (i := 2) (q := 2) rfl rfl dX8_leastStay_46 ?_
    obtain ⟨q4, h5, hF⟩ := bd_inv hF
    refine E_callV (na := 2) (As := [.int v1, .int v2]) (S := []) (kc := 0) (ks := 0) (ci := 10) rfl rfl hv0 (shape_ord hv0).1 cwV_RX8_91 ⟨Nat.le_of_ble_eq_true rfl, Nat.le_of_ble_eq_true rfl⟩ (T_X8_asked hfl fl _ _ _ _ hv0 _ h5) rfl rfl rfl (Nat.le_of_ble_eq_true rfl) dX8_leastStay_47 ?_
    refine E_goto (tgt := 54) rfl dX8_leastStay_50 ?_
    exact E_iret (Or.inl rfl) rfl (by cases hF; exact hr) dX8_leastStay_54
set_option maxHeartbeats 4000000 in
set_option maxRecDepth 100000 in
theorem T_X8_leastStay_33 {l : Launch} (hfl : l.stackTraces = false) (fl : Nat) {r : Rs} {ρ : (Int32 × Mem)} (hr : r = (.inr (some (.int ρ.1)), NF, ρ.2)) (v0 : Nat) (v1 : Int32) (v2 : Int32) (w0 : Nat) (s : Mem) (hv0 : shape v0 = some (.inl 10)) (hw0 : shape w0 = some (.inl 10)) (hF : B_X8_leastStay_33 fl v0 v1 v2 w0 s = some ρ) : E l X_X8_leastStay r false NF s 0 0 33 [(0, .ref v0), (1, .int v1), (2, .int v2)] [.ref w0] := by
  unfold B_X8_leastStay_33 at hF
  refine E_iconst (v := (1 : Int32)) rfl dX8_leastStay_33 ?_
  refine E_sub [0, 1, 2] rfl ?_
  exact T_X8_leastStay_34 hfl fl hr  _ _ _ _ _ _ hv0 hw0 hF
set_option maxHeartbeats 4000000 in
set_option maxRecDepth 100000 in
theorem T_X8_leastStay {l : Launch} (hfl : l.stackTraces = false) (fl : Nat) (v0 : Nat) (v1 : Int32) (v2 : Int32) (s : Mem) (hv0 : shape v0 = some (.inl 10)) (ρ : (Int32 × Mem)) (hF : F_X8_leastStay fl v0 v1 v2 s = some ρ) : MetN l X_X8_leastStay false NF s [.ref v0, .int v1, .int v2] (.inr (some (.int ρ.1)), NF, ρ.2) := by
  unfold F_X8_leastStay at hF
  obtain ⟨r, hr⟩ : ∃ r : Rs, r = (.inr (some (.int ρ.1)), NF, ρ.2) := ⟨_, rfl⟩
  rw [← hr]
  refine met_of_E rfl rfl (by decide +kernel) hfl rfl (Nat.le_of_ble_eq_true rfl) ?_
  show E l X_X8_leastStay r false NF s 0 0 0 [(0, .ref v0), (1, .int v1), (2, .int v2)] []
  refine E_aload_n (j := 0) (i := 0) (q := 0) rfl rfl dX8_leastStay_0 ?_
  refine E_iload_n (j := 1) (i := 1) (q := 1) rfl rfl dX8_leastStay_1 ?_
  obtain ⟨q6, h7, hF⟩ := bd_inv hF
  refine E_callS (na := 1) (As := [.int v1]) (S := [.ref v0]) (kc := 0) (ks := 0) cwS_RX8_88 ⟨Nat.le_of_ble_eq_true rfl, Nat.le_of_ble_eq_true rfl⟩ (T_X8_isNight hfl fl _ _  _ h7) rfl rfl rfl (Nat.le_of_ble_eq_true rfl) dX8_leastStay_2 ?_
  refine E_if_eq (tgt := 33) rfl dX8_leastStay_5 (fun c8 => ?_) (fun c8 => ?_)
  · have hF := ite_t hF c8
    refine E_sub [0, 1, 2] rfl ?_
    exact T_X8_leastStay_33 hfl fl hr  _ _ _ _ _ hv0 hv0 hF
  · have hF := ite_f hF c8
    refine E_iload_n (j := 2) (i := 2) (q := 2) rfl rfl dX8_leastStay_8 ?_
    refine E_iconst (v := (1 : Int32)) rfl dX8_leastStay_9 ?_
    refine E_bipush (v := (14 : Int32)) rfl dX8_leastStay_10 ?_
    obtain ⟨q9, h10, hF⟩ := bd_inv hF
    refine E_callS (na := 3) (As := [.int v2, .int (1 : Int32), .int (14 : Int32)]) (S := [.ref v0]) (kc := 0) (ks := 0) cwS_RX8_52 ⟨Nat.le_of_ble_eq_true rfl, Nat.le_of_ble_eq_true rfl⟩ (T_X8_in hfl fl _ _ _ _  _ h10) rfl rfl rfl (Nat.le_of_ble_eq_true rfl) dX8_leastStay_12 ?_
    refine E_if_eq (tgt := 33) rfl dX8_leastStay_15 (fun c11 => ?_) (fun c11 => ?_)
    · have hF := ite_t hF c11
      refine E_sub [0, 1, 2] rfl ?_
      exact T_X8_leastStay_33 hfl fl hr  _ _ _ _ _ hv0 hv0 hF
    · have hF := ite_f hF c11
      refine E_iload_n (j := 1) (i := 1) (q := 1) rfl rfl dX8_leastStay_18 ?_
      refine E_iload_n (j := 2) (i := 2) (q := 2) rfl rfl dX8_leastStay_19 ?_
      refine E_iadd dX8_leastStay_20 ?_
      refine E_iconst (v := (1 : Int32)) rfl dX8_leastStay_21 ?_
      refine E_isub dX8_leastStay_22 ?_
      obtain ⟨q12, h13, hF⟩ := bd_inv hF
      refine E_callS (na := 1) (As := [.int ((v1 + v2) - (1 : Int32))]) (S := [.ref v0]) (kc := 0) (ks := 0) cwS_RX8_88 ⟨Nat.le_of_ble_eq_true rfl, Nat.le_of_ble_eq_true rfl⟩ (T_X8_isNight hfl fl _ _  _ h13) rfl rfl rfl (Nat.le_of_ble_eq_true rfl) dX8_leastStay_23 ?_
      refine E_if_eq (tgt := 33) rfl dX8_leastStay_26 (fun c14 => ?_) (fun c14 => ?_)
      · have hF := ite_t hF c14
        refine E_sub [0, 1, 2] rfl ?_
        exact T_X8_leastStay_33 hfl fl hr  _ _ _ _ _ hv0 hv0 hF
      · have hF := ite_f hF c14
        refine E_iconst (v := (0 : Int32)) rfl dX8_leastStay_29 ?_
        refine E_goto (tgt := 34) rfl dX8_leastStay_30 ?_
        refine E_sub [0, 1, 2] rfl ?_
        exact T_X8_leastStay_34 hfl fl hr  _ _ _ _ _ _ hv0 hv0 hF
set_option maxHeartbeats 4000000 in
set_option maxRecDepth 100000 in
theorem T_X8_comes {l : Launch} (hfl : l.stackTraces = false) (fl : Nat) (v0 : Nat) (v1 : Int32) (v2 : Int32) (v3 : Int32) (s : Mem) (hv0 : shape v0 = some (.inl 10)) (ρ : Mem) (hF : F_X8_comes fl v0 v1 v2 v3 s = some ρ) : MetN l X_X8_comes false NF s [.ref v0, .int v1, .int v2, .int v3] (.inr none, NF, ρ) := by
  unfold F_X8_comes at hF
  obtain ⟨r, hr⟩ : ∃ r : Rs, r = (.inr none, NF, ρ) := ⟨_, rfl⟩
  rw [← hr]
  refine met_of_E rfl rfl (by decide +kernel) hfl rfl (Nat.le_of_ble_eq_true rfl) ?_
  show E l X_X8_comes r false NF s 0 0 0 [(0, .ref v0), (1, .int v1), (2, .int v2), (3, .int v3)] []
  refine E_aload_n (j := 0) (i := 0) (q := 0) rfl rfl dX8_comes_0 ?_
  obtain ⟨r1, h2, hF⟩ := bd_inv hF
  have h2 := ldA_inv h2
  refine gf_RX8_16 rfl hv0 (shape_ord hv0).1 h2.1 dX8_comes_1 ?_
  refine E_bipush (v := (12 : Int32)) rfl dX8_comes_4 ?_
  refine E_iload_n (j := 2) (i := 2) (q := 2) rfl rfl dX8_comes_6 ?_
  obtain ⟨h3, hF⟩ := gd_inv hF
  refine E_iast _ h2.2 (shape_ord h2.2).1 h3 dX8_comes_7 ?_
  obtain ⟨m4, e5, hF⟩ := nx_inv hF
  refine E_mem e5 ?_
  refine E_aload_n (j := 0) (i := 0) (q := 0) rfl rfl dX8_comes_8 ?_
  obtain ⟨r6, h7, hF⟩ := bd_inv hF
  have h7 := ldA_inv h7
  refine gf_RX8_19 rfl hv0 (shape_ord hv0).1 h7.1 dX8_comes_9 ?_
  refine E_bipush (v := (12 : Int32)) rfl dX8_comes_12 ?_
  refine E_iload_n (j := 3) (i := 3) (q := 3) rfl rfl dX8_comes_14 ?_
  obtain ⟨h8, hF⟩ := gd_inv hF
  refine E_iast _ h7.2 (shape_ord h7.2).1 h8 dX8_comes_15 ?_
  obtain ⟨m9, e10, hF⟩ := nx_inv hF
  refine E_mem e10 ?_
  refine E_aload_n (j := 0) (i := 0) (q := 0) rfl rfl dX8_comes_16 ?_
  obtain ⟨r11, h12, hF⟩ := bd_inv hF
  have h12 := ldA_inv h12
  refine gf_RX8_22 rfl hv0 (shape_ord hv0).1 h12.1 dX8_comes_17 ?_
  refine E_bipush (v := (12 : Int32)) rfl dX8_comes_20 ?_
  refine E_iload_n (j := 1) (i := 1) (q := 1) rfl rfl dX8_comes_22 ?_
  obtain ⟨h13, hF⟩ := gd_inv hF
  refine E_iast _ h12.2 (shape_ord h12.2).1 h13 dX8_comes_23 ?_
  obtain ⟨m14, e15, hF⟩ := nx_inv hF
  refine E_mem e15 ?_
  exact E_vret (Or.inl rfl) rfl (by cases hF; exact hr) dX8_comes_24
set_option maxHeartbeats 4000000 in
set_option maxRecDepth 100000 in
theorem T_X8_gapsOfAll_4 {l : Launch} (hfl : l.stackTraces = false) (fl : Nat) {r : Rs} {ρ : (Int32 × Mem)} (hr : r = (.inr (some (.int ρ.1)), NF, ρ.2)) : ∀ (n : Nat) (v0 : Nat) (v1 : Int32) (v2 : Int32) (s : Mem) (hv0 : shape v0 = some (.inl 10)), B_X8_gapsOfAll_4 fl n v0 v1 v2 s = some ρ → E l X_X8_gapsOfAll r false NF s 0 0 4 [(0, .ref v0), (1, .int v1), (2, .int v2)] [] := by
  intro n
  induction n with
  | zero =>
    intro v0 v1 v2 s hv0 hF
    cases hF
  | succ n ih =>
    intro v0 v1 v2 s hv0 hF
    refine E_iload_n (j := 2) (i := 2) (q := 2) rfl rfl dX8_gapsOfAll_4 ?_
    refine E_aload_n (j := 0) (i := 0) (q := 0) rfl rfl dX8_gapsOfAll_5 ?_
    obtain ⟨r1, h2, hF⟩ := bd_inv hF
    have h2 := ldA_inv h2
    refine gf_RX8_9 rfl hv0 (shape_ord hv0).1 h2.1 dX8_gapsOfAll_6 ?_
    refine E_iconst (v := (0 : Int32)) rfl dX8_gapsOfAll_9 ?_
    obtain ⟨h3, hF⟩ := gd_inv hF
    refine E_iald _ h2.2 (shape_ord h2.2).1 h3 dX8_gapsOfAll_10 ?_
    refine E_icmp_ge (tgt := 32) rfl dX8_gapsOfAll_11 (fun c4 => ?_) (fun c4 => ?_)
    · have hF := ite_t hF c4
      refine E_iload_n (j := 1) (i := 1) (q := 1) rfl rfl dX8_gapsOfAll_32 ?_
      exact E_iret (Or.inl rfl) rfl (by cases hF; exact hr) dX8_gapsOfAll_33
    · have hF := ite_f hF c4
      refine E_iload_n (j := 1) (i := 1) (q := 1) rfl rfl dX8_gapsOfAll_14 ?_
      refine E_aload_n (j := 0) (i := 0) (q := 0) rfl rfl dX8_gapsOfAll_15 ?_
      refine E_aload_n (j := 0) (i := 0) (q := 0) rfl rfl dX8_gapsOfAll_16 ?_
      refine E_iload_n (j := 2) (i := 2) (q := 2) rfl rfl dX8_gapsOfAll_17 ?_
      obtain ⟨q5, h6, hF⟩ := bd_inv hF
      refine E_callV (na := 1) (As := [.int v2]) (S := [.ref v0, .int v1]) (kc := 0) (ks := 0) (ci := 10) rfl rfl hv0 (shape_ord hv0).1 cwV_RX8_71 ⟨Nat.le_of_ble_eq_true rfl, Nat.le_of_ble_eq_true rfl⟩ (T_X8_maskOf hfl fl _ _ _ hv0 _ h6) rfl rfl rfl (Nat.le_of_ble_eq_true rfl) dX8_gapsOfAll_18 ?_
      obtain ⟨q7, h8, hF⟩ := bd_inv hF
      refine E_callV (na := 1) (As := [.long q5]) (S := [.int v1]) (kc := 0) (ks := 0) (ci := 10) rfl rfl hv0 (shape_ord hv0).1 cwV_RX8_79 ⟨Nat.le_of_ble_eq_true rfl, Nat.le_of_ble_eq_true rfl⟩ (T_X8_gapsOf hfl fl _ _ _ hv0 _ h8) rfl rfl rfl (Nat.le_of_ble_eq_true rfl) dX8_gapsOfAll_21 ?_
      refine E_iadd dX8_gapsOfAll_24 ?_
      refine E_istore_n (j := 1) (i := 1) (L' := [(1, .int (v1 + q7.1)), (0, .ref v0), (2, .int v2)]) rfl (Nat.le_of_ble_eq_true rfl) rfl dX8_gapsOfAll_25 ?_
      refine E_iinc (q := 2) (v := (v2 + (1 : Int32))) (L' := [(2, .int (v2 + (1 : Int32))), (1, .int (v1 + q7.1)), (0, .ref v0)]) rfl rfl (Nat.le_of_ble_eq_true rfl) rfl dX8_gapsOfAll_26 ?_
      refine E_goto (tgt := 4) rfl dX8_gapsOfAll_29 ?_
      refine E_sub [2, 1, 0] rfl ?_
      exact ih _ _ _ _ hv0 hF
set_option maxHeartbeats 4000000 in
set_option maxRecDepth 100000 in
theorem T_X8_gapsOfAll {l : Launch} (hfl : l.stackTraces = false) (fl : Nat) (v0 : Nat) (s : Mem) (hv0 : shape v0 = some (.inl 10)) (ρ : (Int32 × Mem)) (hF : F_X8_gapsOfAll fl v0 s = some ρ) : MetN l X_X8_gapsOfAll false NF s [.ref v0] (.inr (some (.int ρ.1)), NF, ρ.2) := by
  unfold F_X8_gapsOfAll at hF
  obtain ⟨r, hr⟩ : ∃ r : Rs, r = (.inr (some (.int ρ.1)), NF, ρ.2) := ⟨_, rfl⟩
  rw [← hr]
  refine met_of_E rfl rfl (by decide +kernel) hfl rfl (Nat.le_of_ble_eq_true rfl) ?_
  show E l X_X8_gapsOfAll r false NF s 0 0 0 [(0, .ref v0)] []
  refine E_iconst (v := (0 : Int32)) rfl dX8_gapsOfAll_0 ?_
  refine E_istore_n (j := 1) (i := 1) (L' := [(1, .int (0 : Int32)), (0, .ref v0)]) rfl (Nat.le_of_ble_eq_true rfl) rfl dX8_gapsOfAll_1 ?_
  refine E_iconst (v := (0 : Int32)) rfl dX8_gapsOfAll_2 ?_
  refine E_istore_n (j := 2) (i := 2) (L' := [(2, .int (0 : Int32)), (1, .int (0 : Int32)), (0, .ref v0)]) rfl (Nat.le_of_ble_eq_true rfl) rfl dX8_gapsOfAll_3 ?_
  refine E_sub [2, 1, 0] rfl ?_
  exact T_X8_gapsOfAll_4 hfl fl hr  fl _ _ _ _ hv0 hF
set_option maxHeartbeats 4000000 in
set_option maxRecDepth 100000 in
theorem T_X8_powerAt_81 {l : Launch} (hfl : l.stackTraces = false) (fl : Nat) {r : Rs} {ρ : Int32} {s : Mem} (hr : r = (.inr (some (.int ρ)), NF, s)) {k5 : Nat → Int32 → Int32 → Int32 → Int32 → Option Int32} (hk5 : ∀ (v0 : Nat) (v1 : Int32) (v2 : Int32) (v3 : Int32) (v4 : Int32) (hv0 : shape v0 = some (.inl 10)), k5 v0 v1 v2 v3 v4 = some ρ → E l X_X8_powerAt r false NF s 0 0 5 [(0, .ref v0), (1, .int v1), (2, .int v2), (3, .int v3), (4, .int v4)] []) (v0 : Nat) (v1 : Int32) (v2 : Int32) (v4 : Int32) (w0 : Int32) (w1 : Int32) (hv0 : shape v0 = some (.inl 10)) (hF : B_X8_powerAt_81 k5 fl s v0 v1 v2 v4 w0 w1 = some ρ) : E l X_X8_powerAt r false NF s 0 0 81 [(0, .ref v0), (1, .int v1), (2, .int v2), (4, .int v4)] [.int w1, .int w0] := by
  unfold B_X8_powerAt_81 at hF
  refine E_iadd dX8_powerAt_81 ?_
  refine E_istore_n (j := 3) (i := 3) (L' := [(3, .int (w0 + w1)), (0, .ref v0), (1, .int v1), (2, .int v2), (4, .int v4)]) rfl (Nat.le_of_ble_eq_true rfl) rfl dX8_powerAt_82 ?_
  refine E_iinc (q := 4) (v := (v4 + (1 : Int32))) (L' := [(4, .int (v4 + (1 : Int32))), (3, .int (w0 + w1)), (0, .ref v0), (1, .int v1), (2, .int v2)]) rfl rfl (Nat.le_of_ble_eq_true rfl) rfl dX8_powerAt_83 ?_
  refine E_goto (tgt := 5) rfl dX8_powerAt_86 ?_
  refine E_sub [2, 3, 4, 1, 0] rfl ?_
  exact hk5 _ _ _ _ _ hv0 hF
set_option maxHeartbeats 4000000 in
set_option maxRecDepth 100000 in
theorem T_X8_powerAt_80 {l : Launch} (hfl : l.stackTraces = false) (fl : Nat) {r : Rs} {ρ : Int32} {s : Mem} (hr : r = (.inr (some (.int ρ)), NF, s)) {k5 : Nat → Int32 → Int32 → Int32 → Int32 → Option Int32} (hk5 : ∀ (v0 : Nat) (v1 : Int32) (v2 : Int32) (v3 : Int32) (v4 : Int32) (hv0 : shape v0 = some (.inl 10)), k5 v0 v1 v2 v3 v4 = some ρ → E l X_X8_powerAt r false NF s 0 0 5 [(0, .ref v0), (1, .int v1), (2, .int v2), (3, .int v3), (4, .int v4)] []) (v0 : Nat) (v1 : Int32) (v2 : Int32) (v4 : Int32) (w0 : Int32) (hv0 : shape v0 = some (.inl 10)) (hF : B_X8_powerAt_80 k5 fl s v0 v1 v2 v4 w0 = some ρ) : E l X_X8_powerAt r false NF s 0 0 80 [(0, .ref v0), (1, .int v1), (2, .int v2), (4, .int v4)] [.int w0] := by
  unfold B_X8_powerAt_80 at hF
  refine E_iconst (v := (0 : Int32)) rfl dX8_powerAt_80 ?_
  refine E_sub [0, 1, 2, 3] rfl ?_
  exact T_X8_powerAt_81 hfl fl hr hk5 _ _ _ _ _ _ hv0 hF
set_option maxHeartbeats 4000000 in
set_option maxRecDepth 100000 in
theorem T_X8_powerAt_5 {l : Launch} (hfl : l.stackTraces = false) (fl : Nat) {r : Rs} {ρ : Int32} {s : Mem} (hr : r = (.inr (some (.int ρ)), NF, s)) : ∀ (n : Nat) (v0 : Nat) (v1 : Int32) (v2 : Int32) (v3 : Int32) (v4 : Int32) (hv0 : shape v0 = some (.inl 10)), B_X8_powerAt_5 fl s n v0 v1 v2 v3 v4 = some ρ → E l X_X8_powerAt r false NF s 0 0 5 [(0, .ref v0), (1, .int v1), (2, .int v2), (3, .int v3), (4, .int v4)] [] := by
  intro n
  induction n with
  | zero =>
    intro v0 v1 v2 v3 v4 hv0 hF
    cases hF
  | succ n ih =>
    intro v0 v1 v2 v3 v4 hv0 hF
    refine E_iload (q := 4) rfl dX8_powerAt_5 ?_
    refine E_bipush (v := (12 : Int32)) rfl dX8_powerAt_7 ?_
    refine E_icmp_gt (tgt := 89) rfl dX8_powerAt_9 (fun c1 => ?_) (fun c1 => ?_)
    · have hF := ite_t hF c1
      refine E_iload_n (j := 3) (i := 3) (q := 3) rfl rfl dX8_powerAt_89 ?_
      exact E_iret (Or.inl rfl) rfl (by cases hF; exact hr) dX8_powerAt_90
    · have hF := ite_f hF c1
      refine E_iload_n (j := 3) (i := 3) (q := 3) rfl rfl dX8_powerAt_12 ?_
      refine E_aload_n (j := 0) (i := 0) (q := 0) rfl rfl dX8_powerAt_13 ?_
      obtain ⟨r2, h3, hF⟩ := bd_inv hF
      have h3 := ldA_inv h3
      refine gf_RX8_13 rfl hv0 (shape_ord hv0).1 h3.1 dX8_powerAt_14 ?_
      refine E_iload (q := 4) rfl dX8_powerAt_17 ?_
      obtain ⟨h4, hF⟩ := gd_inv hF
      refine E_iald _ h3.2 (shape_ord h3.2).1 h4 dX8_powerAt_19 ?_
      refine E_if_lt (tgt := 80) rfl dX8_powerAt_20 (fun c5 => ?_) (fun c5 => ?_)
      · have hF := ite_t hF c5
        refine E_sub [0, 1, 2, 4] rfl ?_
        exact T_X8_powerAt_80 hfl fl hr ih _ _ _ _ _ hv0 hF
      · have hF := ite_f hF c5
        refine E_aload_n (j := 0) (i := 0) (q := 0) rfl rfl dX8_powerAt_23 ?_
        refine E_aload_n (j := 0) (i := 0) (q := 0) rfl rfl dX8_powerAt_24 ?_
        obtain ⟨r6, h7, hF⟩ := bd_inv hF
        have h7 := ldA_inv h7
        refine gf_RX8_13 rfl hv0 (shape_ord hv0).1 h7.1 dX8_powerAt_25 ?_
        refine E_iload (q := 4) rfl dX8_powerAt_28 ?_
        obtain ⟨h8, hF⟩ := gd_inv hF
        refine E_iald _ h7.2 (shape_ord h7.2).1 h8 dX8_powerAt_30 ?_
        refine E_iconst (v := (3 : Int32)) rfl dX8_powerAt_31 ?_
        obtain ⟨q9, h10, hF⟩ := bd_inv hF
        refine E_callV (na := 2) (As := [.int (gI s r6.1 v4.toNatClampNeg), .int (3 : Int32)]) (S := [.int v3]) (kc := 0) (ks := 0) (ci := 10) rfl rfl hv0 (shape_ord hv0).1 cwV_RX8_63 ⟨Nat.le_of_ble_eq_true rfl, Nat.le_of_ble_eq_true rfl⟩ (T_X8_ofPitch hfl fl _ _ _ _ hv0 _ h10) rfl rfl rfl (Nat.le_of_ble_eq_true rfl) dX8_powerAt_32 ?_
        refine E_iload_n (j := 1) (i := 1) (q := 1) rfl rfl dX8_powerAt_35 ?_
        refine E_icmp_ne (tgt := 80) rfl dX8_powerAt_36 (fun c11 => ?_) (fun c11 => ?_)
        · have hF := ite_f hF c11
          refine E_sub [0, 1, 2, 4] rfl ?_
          exact T_X8_powerAt_80 hfl fl hr ih _ _ _ _ _ hv0 hF
        · have hF := ite_t hF c11
          refine E_iload_n (j := 2) (i := 2) (q := 2) rfl rfl dX8_powerAt_39 ?_
          refine E_aload_n (j := 0) (i := 0) (q := 0) rfl rfl dX8_powerAt_40 ?_
          obtain ⟨r12, h13, hF⟩ := bd_inv hF
          have h13 := ldA_inv h13
          refine gf_RX8_16 rfl hv0 (shape_ord hv0).1 h13.1 dX8_powerAt_41 ?_
          refine E_iload (q := 4) rfl dX8_powerAt_44 ?_
          obtain ⟨h14, hF⟩ := gd_inv hF
          refine E_iald _ h13.2 (shape_ord h13.2).1 h14 dX8_powerAt_46 ?_
          refine E_aload_n (j := 0) (i := 0) (q := 0) rfl rfl dX8_powerAt_47 ?_
          obtain ⟨r15, h16, hF⟩ := bd_inv hF
          have h16 := ldA_inv h16
          refine gf_RX8_16 rfl hv0 (shape_ord hv0).1 h16.1 dX8_powerAt_48 ?_
          refine E_iload (q := 4) rfl dX8_powerAt_51 ?_
          obtain ⟨h17, hF⟩ := gd_inv hF
          refine E_iald _ h16.2 (shape_ord h16.2).1 h17 dX8_powerAt_53 ?_
          refine E_aload_n (j := 0) (i := 0) (q := 0) rfl rfl dX8_powerAt_54 ?_
          obtain ⟨r18, h19, hF⟩ := bd_inv hF
          have h19 := ldA_inv h19
          refine gf_RX8_19 rfl hv0 (shape_ord hv0).1 h19.1 dX8_powerAt_55 ?_
          refine E_iload (q := 4) rfl dX8_powerAt_58 ?_
          obtain ⟨h20, hF⟩ := gd_inv hF
          refine E_iald _ h19.2 (shape_ord h19.2).1 h20 dX8_powerAt_60 ?_
          refine E_iadd dX8_powerAt_61 ?_
          refine E_iconst (v := (1 : Int32)) rfl dX8_powerAt_62 ?_
          refine E_isub dX8_powerAt_63 ?_
          obtain ⟨q21, h22, hF⟩ := bd_inv hF
          refine E_callS (na := 3) (As := [.int v2, .int (gI s r12.1 v4.toNatClampNeg), .int (((gI s r15.1 v4.toNatClampNeg) + (gI s r18.1 v4.toNatClampNeg)) - (1 : Int32))]) (S := [.int v3]) (kc := 0) (ks := 0) cwS_RX8_52 ⟨Nat.le_of_ble_eq_true rfl, Nat.le_of_ble_eq_true rfl⟩ (T_X8_in hfl fl _ _ _ _  _ h22) rfl rfl rfl (Nat.le_of_ble_eq_true rfl) dX8_powerAt_64 ?_
          refine E_if_eq (tgt := 80) rfl dX8_powerAt_67 (fun c23 => ?_) (fun c23 => ?_)
          · have hF := ite_t hF c23
            refine E_sub [0, 1, 2, 4] rfl ?_
            exact T_X8_powerAt_80 hfl fl hr ih _ _ _ _ _ hv0 hF
          · have hF := ite_f hF c23
            refine E_aload_n (j := 0) (i := 0) (q := 0) rfl rfl dX8_powerAt_70 ?_
            obtain ⟨r24, h25, hF⟩ := bd_inv hF
            have h25 := ldA_inv h25
            refine gf_RX8_22 rfl hv0 (shape_ord hv0).1 h25.1 dX8_powerAt_71 ?_
            refine E_iload (q := 4) rfl dX8_powerAt_74 ?_
            obtain ⟨h26, hF⟩ := gd_inv hF
            refine E_iald _ h25.2 (shape_ord h25.2).1 h26 dX8_powerAt_76 ?_
            refine E_goto (tgt := 81) rfl dX8_powerAt_77 ?_
            refine E_sub [0, 1, 2, 4] rfl ?_
            exact T_X8_powerAt_81 hfl fl hr ih _ _ _ _ _ _ hv0 hF
set_option maxHeartbeats 4000000 in
set_option maxRecDepth 100000 in
theorem T_X8_powerAt {l : Launch} (hfl : l.stackTraces = false) (fl : Nat) (v0 : Nat) (v1 : Int32) (v2 : Int32) (s : Mem) (hv0 : shape v0 = some (.inl 10)) (ρ : Int32) (hF : F_X8_powerAt fl v0 v1 v2 s = some ρ) : MetN l X_X8_powerAt false NF s [.ref v0, .int v1, .int v2] (.inr (some (.int ρ)), NF, s) := by
  unfold F_X8_powerAt at hF
  obtain ⟨r, hr⟩ : ∃ r : Rs, r = (.inr (some (.int ρ)), NF, s) := ⟨_, rfl⟩
  rw [← hr]
  refine met_of_E rfl rfl (by decide +kernel) hfl rfl (Nat.le_of_ble_eq_true rfl) ?_
  show E l X_X8_powerAt r false NF s 0 0 0 [(0, .ref v0), (1, .int v1), (2, .int v2)] []
  refine E_iconst (v := (0 : Int32)) rfl dX8_powerAt_0 ?_
  refine E_istore_n (j := 3) (i := 3) (L' := [(3, .int (0 : Int32)), (0, .ref v0), (1, .int v1), (2, .int v2)]) rfl (Nat.le_of_ble_eq_true rfl) rfl dX8_powerAt_1 ?_
  refine E_iconst (v := (0 : Int32)) rfl dX8_powerAt_2 ?_
  refine E_istore (L' := [(4, .int (0 : Int32)), (3, .int (0 : Int32)), (0, .ref v0), (1, .int v1), (2, .int v2)]) (Nat.le_of_ble_eq_true rfl) rfl dX8_powerAt_3 ?_
  refine E_sub [2, 3, 4, 1, 0] rfl ?_
  exact T_X8_powerAt_5 hfl fl hr  fl _ _ _ _ _ hv0 hF
set_option maxHeartbeats 4000000 in
set_option maxRecDepth 100000 in
theorem T_X8_fits_53 {l : Launch} (hfl : l.stackTraces = false) (fl : Nat) {r : Rs} {ρ : Int32} {s : Mem} (hr : r = (.inr (some (.int ρ)), NF, s)) (v0 : Nat) (v4 : Int32) (v5 : Int32) (hv0 : shape v0 = some (.inl 10)) (hF : B_X8_fits_53 fl s v0 v4 v5 = some ρ) : E l X_X8_fits r false NF s 0 0 53 [(0, .ref v0), (4, .int v4), (5, .int v5)] [] := by
  unfold B_X8_fits_53 at hF
  refine E_iload (q := 1) rfl dX8_fits_53 ?_
  refine E_if_eq (tgt := 68) rfl dX8_fits_55 (fun c1 => ?_) (fun c1 => ?_)
  · have hF := ite_t hF c1
    refine E_iconst (v := (1 : Int32)) rfl dX8_fits_68 ?_
    refine E_goto (tgt := 73) rfl dX8_fits_69 ?_
    exact E_zret (ty := .boolean) (Or.inl rfl) rfl rfl (by cases hF; exact hr) dX8_fits_73
  · have hF := ite_f hF c1
    refine E_aload_n (j := 0) (i := 0) (q := 0) rfl rfl dX8_fits_58 ?_
    refine E_iload (q := 2) rfl dX8_fits_59 ?_
    refine E_iconst (v := (3 : Int32)) rfl dX8_fits_61 ?_
    obtain ⟨q2, h3, hF⟩ := bd_inv hF
    refine E_callV (na := 2) (As := [.int v5, .int (3 : Int32)]) (S := []) (kc := 0) (ks := 0) (ci := 10) rfl rfl hv0 (shape_ord hv0).1 cwV_RX8_63 ⟨Nat.le_of_ble_eq_true rfl, Nat.le_of_ble_eq_true rfl⟩ (T_X8_ofPitch hfl fl _ _ _ _ hv0 _ h3) rfl rfl rfl (Nat.le_of_ble_eq_true rfl) dX8_fits_62 ?_
    refine E_if_lt (tgt := 72) rfl dX8_fits_65 (fun c4 => ?_) (fun c4 => ?_)
    · have hF := ite_t hF c4
      refine E_iconst (v := (0 : Int32)) rfl dX8_fits_72 ?_
      exact E_zret (ty := .boolean) (Or.inl rfl) rfl rfl (by cases hF; exact hr) dX8_fits_73
    · have hF := ite_f hF c4
      refine E_iconst (v := (1 : Int32)) rfl dX8_fits_68 ?_
      refine E_goto (tgt := 73) rfl dX8_fits_69 ?_
      exact E_zret (ty := .boolean) (Or.inl rfl) rfl rfl (by cases hF; exact hr) dX8_fits_73
set_option maxHeartbeats 4000000 in
set_option maxRecDepth 100000 in
theorem T_X8_fits_41 {l : Launch} (hfl : l.stackTraces = false) (fl : Nat) {r : Rs} {ρ : Int32} {s : Mem} (hr : r = (.inr (some (.int ρ)), NF, s)) (v0 : Nat) (v2 : Int32) (v3 : Int32) (v4 : Int32) (v5 : Int32) (v6 : Int32) (v7 : Int32) (hv0 : shape v0 = some (.inl 10)) (hF : B_X8_fits_41 fl s v0 v2 v3 v4 v5 v6 v7 = some ρ) : E l X_X8_fits r false NF s 0 0 41 [(0, .ref v0), (2, .int v2), (3, .int v3), (4, .int v4), (5, .int v5), (6, .int v6), (7, .int v7)] [] := by
  unfold B_X8_fits_41 at hF
  refine E_iload_n (j := 3) (i := 3) (q := 2) rfl rfl dX8_fits_41 ?_
  refine E_iload (q := 5) rfl dX8_fits_42 ?_
  refine E_icmp_gt (tgt := 72) rfl dX8_fits_44 (fun c5 => ?_) (fun c5 => ?_)
  · have hF := ite_t hF c5
    refine E_iconst (v := (0 : Int32)) rfl dX8_fits_72 ?_
    exact E_zret (ty := .boolean) (Or.inl rfl) rfl rfl (by cases hF; exact hr) dX8_fits_73
  · have hF := ite_f hF c5
    refine E_iload_n (j := 2) (i := 2) (q := 1) rfl rfl dX8_fits_47 ?_
    refine E_iload (q := 6) rfl dX8_fits_48 ?_
    refine E_icmp_gt (tgt := 72) rfl dX8_fits_50 (fun c6 => ?_) (fun c6 => ?_)
    · have hF := ite_t hF c6
      refine E_iconst (v := (0 : Int32)) rfl dX8_fits_72 ?_
      exact E_zret (ty := .boolean) (Or.inl rfl) rfl rfl (by cases hF; exact hr) dX8_fits_73
    · have hF := ite_f hF c6
      refine E_sub [0, 3, 4] rfl ?_
      exact T_X8_fits_53 hfl fl hr  _ _ _ hv0 hF
set_option maxHeartbeats 4000000 in
set_option maxRecDepth 100000 in
theorem T_X8_fits {l : Launch} (hfl : l.stackTraces = false) (fl : Nat) (v0 : Nat) (v1 : Int32) (v2 : Int32) (v3 : Int32) (v4 : Int32) (v5 : Int32) (s : Mem) (hv0 : shape v0 = some (.inl 10)) (ρ : Int32) (hF : F_X8_fits fl v0 v1 v2 v3 v4 v5 s = some ρ) : MetN l X_X8_fits false NF s [.ref v0, .int v1, .int v2, .int v3, .int v4, .int v5] (.inr (some (.int ρ)), NF, s) := by
  unfold F_X8_fits at hF
  obtain ⟨r, hr⟩ : ∃ r : Rs, r = (.inr (some (.int ρ)), NF, s) := ⟨_, rfl⟩
  rw [← hr]
  refine met_of_E rfl rfl (by decide +kernel) hfl rfl (Nat.le_of_ble_eq_true rfl) ?_
  show E l X_X8_fits r false NF s 0 0 0 [(0, .ref v0), (1, .int v1), (2, .int v2), (3, .int v3), (4, .int v4), (5, .int v5)] []
  refine E_aload_n (j := 0) (i := 0) (q := 0) rfl rfl dX8_fits_0 ?_
  refine E_iload (q := 5) rfl dX8_fits_1 ?_
  refine E_iconst (v := (1 : Int32)) rfl dX8_fits_3 ?_
  obtain ⟨q7, h8, hF⟩ := bd_inv hF
  refine E_callV (na := 2) (As := [.int v5, .int (1 : Int32)]) (S := []) (kc := 0) (ks := 0) (ci := 10) rfl rfl hv0 (shape_ord hv0).1 cwV_RX8_63 ⟨Nat.le_of_ble_eq_true rfl, Nat.le_of_ble_eq_true rfl⟩ (T_X8_ofPitch hfl fl _ _ _ _ hv0 _ h8) rfl rfl rfl (Nat.le_of_ble_eq_true rfl) dX8_fits_4 ?_
  refine E_istore (L' := [(6, .int q7), (0, .ref v0), (1, .int v1), (2, .int v2), (3, .int v3), (4, .int v4), (5, .int v5)]) (Nat.le_of_ble_eq_true rfl) rfl dX8_fits_7 ?_
  refine E_aload_n (j := 0) (i := 0) (q := 1) rfl rfl dX8_fits_9 ?_
  refine E_iload (q := 6) rfl dX8_fits_10 ?_
  refine E_iconst (v := (2 : Int32)) rfl dX8_fits_12 ?_
  obtain ⟨q9, h10, hF⟩ := bd_inv hF
  refine E_callV (na := 2) (As := [.int v5, .int (2 : Int32)]) (S := []) (kc := 0) (ks := 0) (ci := 10) rfl rfl hv0 (shape_ord hv0).1 cwV_RX8_63 ⟨Nat.le_of_ble_eq_true rfl, Nat.le_of_ble_eq_true rfl⟩ (T_X8_ofPitch hfl fl _ _ _ _ hv0 _ h10) rfl rfl rfl (Nat.le_of_ble_eq_true rfl) dX8_fits_13 ?_
  refine E_istore (L' := [(7, .int q9), (6, .int q7), (0, .ref v0), (1, .int v1), (2, .int v2), (3, .int v3), (4, .int v4), (5, .int v5)]) (Nat.le_of_ble_eq_true rfl) rfl dX8_fits_16 ?_
  refine E_iload_n (j := 1) (i := 1) (q := 3) rfl rfl dX8_fits_18 ?_
  refine E_aload_n (j := 0) (i := 0) (q := 2) rfl rfl dX8_fits_19 ?_
  refine E_iload (q := 7) rfl dX8_fits_20 ?_
  refine E_iconst (v := (0 : Int32)) rfl dX8_fits_22 ?_
  obtain ⟨q11, h12, hF⟩ := bd_inv hF
  refine E_callV (na := 2) (As := [.int v5, .int (0 : Int32)]) (S := [.int v1]) (kc := 0) (ks := 0) (ci := 10) rfl rfl hv0 (shape_ord hv0).1 cwV_RX8_63 ⟨Nat.le_of_ble_eq_true rfl, Nat.le_of_ble_eq_true rfl⟩ (T_X8_ofPitch hfl fl _ _ _ _ hv0 _ h12) rfl rfl rfl (Nat.le_of_ble_eq_true rfl) dX8_fits_23 ?_
  refine E_icmp_gt (tgt := 72) rfl dX8_fits_26 (fun c13 => ?_) (fun c13 => ?_)
  · have hF := ite_t hF c13
    refine E_iconst (v := (0 : Int32)) rfl dX8_fits_72 ?_
    exact E_zret (ty := .boolean) (Or.inl rfl) rfl rfl (by cases hF; exact hr) dX8_fits_73
  · have hF := ite_f hF c13
    refine E_iload_n (j := 2) (i := 2) (q := 4) rfl rfl dX8_fits_29 ?_
    refine E_iload (q := 1) rfl dX8_fits_30 ?_
    refine E_icmp_gt (tgt := 41) rfl dX8_fits_32 (fun c14 => ?_) (fun c14 => ?_)
    · have hF := ite_t hF c14
      refine E_sub [2, 4, 5, 6, 7, 1, 0] rfl ?_
      exact T_X8_fits_41 hfl fl hr  _ _ _ _ _ _ _ hv0 hF
    · have hF := ite_f hF c14
      refine E_iload_n (j := 3) (i := 3) (q := 5) rfl rfl dX8_fits_35 ?_
      refine E_iload (q := 0) rfl dX8_fits_36 ?_
      refine E_icmp_le (tgt := 53) rfl dX8_fits_38 (fun c15 => ?_) (fun c15 => ?_)
      · have hF := ite_t hF c15
        refine E_sub [2, 6, 7] rfl ?_
        exact T_X8_fits_53 hfl fl hr  _ _ _ hv0 hF
      · have hF := ite_f hF c15
        refine E_sub [2, 4, 5, 6, 7, 1, 0] rfl ?_
        exact T_X8_fits_41 hfl fl hr  _ _ _ _ _ _ _ hv0 hF
set_option maxHeartbeats 4000000 in
set_option maxRecDepth 100000 in
theorem T_X8_isAlone {l : Launch} (hfl : l.stackTraces = false) (fl : Nat) (v0 : Nat) (v1 : Int32) (s : Mem) (hv0 : shape v0 = some (.inl 10)) (ρ : Int32) (hF : F_X8_isAlone fl v0 v1 s = some ρ) : MetN l X_X8_isAlone false NF s [.ref v0, .int v1] (.inr (some (.int ρ)), NF, s) := by
  unfold F_X8_isAlone at hF
  obtain ⟨r, hr⟩ : ∃ r : Rs, r = (.inr (some (.int ρ)), NF, s) := ⟨_, rfl⟩
  rw [← hr]
  refine met_of_E rfl rfl (by decide +kernel) hfl rfl (Nat.le_of_ble_eq_true rfl) ?_
  show E l X_X8_isAlone r false NF s 0 0 0 [(0, .ref v0), (1, .int v1)] []
  refine E_aload_n (j := 0) (i := 0) (q := 0) rfl rfl dX8_isAlone_0 ?_
  refine E_aload_n (j := 0) (i := 0) (q := 0) rfl rfl dX8_isAlone_1 ?_
  obtain ⟨r1, h2, hF⟩ := bd_inv hF
  have h2 := ldA_inv h2
  refine gf_RX8_13 rfl hv0 (shape_ord hv0).1 h2.1 dX8_isAlone_2 ?_
  refine E_iload_n (j := 1) (i := 1) (q := 1) rfl rfl dX8_isAlone_5 ?_
  obtain ⟨h3, hF⟩ := gd_inv hF
  refine E_iald _ h2.2 (shape_ord h2.2).1 h3 dX8_isAlone_6 ?_
  refine E_iload_n (j := 1) (i := 1) (q := 1) rfl rfl dX8_isAlone_7 ?_
  obtain ⟨q4, h5, hF⟩ := bd_inv hF
  refine E_callV (na := 2) (As := [.int (gI s r1.1 v1.toNatClampNeg), .int v1]) (S := []) (kc := 0) (ks := 0) (ci := 10) rfl rfl hv0 (shape_ord hv0).1 cwV_RX8_100 ⟨Nat.le_of_ble_eq_true rfl, Nat.le_of_ble_eq_true rfl⟩ (T_X8_maskOf_ hfl fl _ _ _ _ hv0 _ h5) rfl rfl rfl (Nat.le_of_ble_eq_true rfl) dX8_isAlone_8 ?_
  refine E_aload_n (j := 0) (i := 0) (q := 0) rfl rfl dX8_isAlone_11 ?_
  obtain ⟨r6, h7, hF⟩ := bd_inv hF
  have h7 := ldA_inv h7
  refine gf_RX8_16 rfl hv0 (shape_ord hv0).1 h7.1 dX8_isAlone_12 ?_
  refine E_iload_n (j := 1) (i := 1) (q := 1) rfl rfl dX8_isAlone_15 ?_
  obtain ⟨h8, hF⟩ := gd_inv hF
  refine E_iald _ h7.2 (shape_ord h7.2).1 h8 dX8_isAlone_16 ?_
  refine E_aload_n (j := 0) (i := 0) (q := 0) rfl rfl dX8_isAlone_17 ?_
  obtain ⟨r9, h10, hF⟩ := bd_inv hF
  have h10 := ldA_inv h10
  refine gf_RX8_19 rfl hv0 (shape_ord hv0).1 h10.1 dX8_isAlone_18 ?_
  refine E_iload_n (j := 1) (i := 1) (q := 1) rfl rfl dX8_isAlone_21 ?_
  obtain ⟨h11, hF⟩ := gd_inv hF
  refine E_iald _ h10.2 (shape_ord h10.2).1 h11 dX8_isAlone_22 ?_
  obtain ⟨q12, h13, hF⟩ := bd_inv hF
  refine E_callS (na := 2) (As := [.int (gI s r6.1 v1.toNatClampNeg), .int (gI s r9.1 v1.toNatClampNeg)]) (S := [.long q4]) (kc := 0) (ks := 0) cwS_RX8_103 ⟨Nat.le_of_ble_eq_true rfl, Nat.le_of_ble_eq_true rfl⟩ (T_X8_mask hfl fl _ _ _  _ h13) rfl rfl rfl (Nat.le_of_ble_eq_true rfl) dX8_isAlone_23 ?_
  refine E_land dX8_isAlone_26 ?_
  refine E_lconst (v := (0 : Int64)) rfl dX8_isAlone_27 ?_
  refine E_lcmp dX8_isAlone_28 ?_
  refine E_if_ne (tgt := 36) rfl dX8_isAlone_29 (fun c14 => ?_) (fun c14 => ?_)
  · have hF := ite_f hF c14
    refine E_iconst (v := (0 : Int32)) rfl dX8_isAlone_36 ?_
    exact E_zret (ty := .boolean) (Or.inl rfl) rfl rfl (by cases hF; exact hr) dX8_isAlone_37
  · have hF := ite_t hF c14
    refine E_iconst (v := (1 : Int32)) rfl dX8_isAlone_32 ?_
    refine E_goto (tgt := 37) rfl dX8_isAlone_33 ?_
    exact E_zret (ty := .boolean) (Or.inl rfl) rfl rfl (by cases hF; exact hr) dX8_isAlone_37
set_option maxHeartbeats 4000000 in
set_option maxRecDepth 100000 in
theorem T_X8_hasPower_19 {l : Launch} (hfl : l.stackTraces = false) (fl : Nat) {r : Rs} {ρ : Int32} {s : Mem} (hr : r = (.inr (some (.int ρ)), NF, s)) : ∀ (n : Nat) (v0 : Nat) (v1 : Int32) (v2 : Int32) (v3 : Int32) (hv0 : shape v0 = some (.inl 10)), B_X8_hasPower_19 fl s n v0 v1 v2 v3 = some ρ → E l X_X8_hasPower r false NF s 0 0 19 [(0, .ref v0), (1, .int v1), (2, .int v2), (3, .int v3)] [] := by
  intro n
  induction n with
  | zero =>
    intro v0 v1 v2 v3 hv0 hF
    cases hF
  | succ n ih =>
    intro v0 v1 v2 v3 hv0 hF
    refine E_iload_n (j := 2) (i := 2) (q := 2) rfl rfl dX8_hasPower_19 ?_
    refine E_if_lt (tgt := 65) rfl dX8_hasPower_20 (fun c1 => ?_) (fun c1 => ?_)
    · have hF := ite_t hF c1
      refine E_iconst (v := (1 : Int32)) rfl dX8_hasPower_65 ?_
      exact E_zret (ty := .boolean) (Or.inl rfl) rfl rfl (by cases hF; exact hr) dX8_hasPower_66
    · have hF := ite_f hF c1
      refine E_iload_n (j := 3) (i := 3) (q := 3) rfl rfl dX8_hasPower_23 ?_
      refine E_aload_n (j := 0) (i := 0) (q := 0) rfl rfl dX8_hasPower_24 ?_
      obtain ⟨r2, h3, hF⟩ := bd_inv hF
      have h3 := ldA_inv h3
      refine gf_RX8_16 rfl hv0 (shape_ord hv0).1 h3.1 dX8_hasPower_25 ?_
      refine E_iload_n (j := 1) (i := 1) (q := 1) rfl rfl dX8_hasPower_28 ?_
      obtain ⟨h4, hF⟩ := gd_inv hF
      refine E_iald _ h3.2 (shape_ord h3.2).1 h4 dX8_hasPower_29 ?_
      refine E_aload_n (j := 0) (i := 0) (q := 0) rfl rfl dX8_hasPower_30 ?_
      obtain ⟨r5, h6, hF⟩ := bd_inv hF
      have h6 := ldA_inv h6
      refine gf_RX8_19 rfl hv0 (shape_ord hv0).1 h6.1 dX8_hasPower_31 ?_
      refine E_iload_n (j := 1) (i := 1) (q := 1) rfl rfl dX8_hasPower_34 ?_
      obtain ⟨h7, hF⟩ := gd_inv hF
      refine E_iald _ h6.2 (shape_ord h6.2).1 h7 dX8_hasPower_35 ?_
      refine E_iadd dX8_hasPower_36 ?_
      refine E_icmp_ge (tgt := 65) rfl dX8_hasPower_37 (fun c8 => ?_) (fun c8 => ?_)
      · have hF := ite_t hF c8
        refine E_iconst (v := (1 : Int32)) rfl dX8_hasPower_65 ?_
        exact E_zret (ty := .boolean) (Or.inl rfl) rfl rfl (by cases hF; exact hr) dX8_hasPower_66
      · have hF := ite_f hF c8
        refine E_aload_n (j := 0) (i := 0) (q := 0) rfl rfl dX8_hasPower_40 ?_
        refine E_iload_n (j := 2) (i := 2) (q := 2) rfl rfl dX8_hasPower_41 ?_
        refine E_iload_n (j := 3) (i := 3) (q := 3) rfl rfl dX8_hasPower_42 ?_
        obtain ⟨q9, h10, hF⟩ := bd_inv hF
        refine E_callV (na := 2) (As := [.int v2, .int v3]) (S := []) (kc := 0) (ks := 0) (ci := 10) rfl rfl hv0 (shape_ord hv0).1 cwV_RX8_116 ⟨Nat.le_of_ble_eq_true rfl, Nat.le_of_ble_eq_true rfl⟩ (T_X8_powerAt hfl fl _ _ _ _ hv0 _ h10) rfl rfl rfl (Nat.le_of_ble_eq_true rfl) dX8_hasPower_43 ?_
        refine E_aload_n (j := 0) (i := 0) (q := 0) rfl rfl dX8_hasPower_46 ?_
        obtain ⟨r11, h12, hF⟩ := bd_inv hF
        have h12 := ldA_inv h12
        refine gf_RX8_9 rfl hv0 (shape_ord hv0).1 h12.1 dX8_hasPower_47 ?_
        refine E_iconst (v := (5 : Int32)) rfl dX8_hasPower_50 ?_
        refine E_iload_n (j := 2) (i := 2) (q := 2) rfl rfl dX8_hasPower_51 ?_
        refine E_iadd dX8_hasPower_52 ?_
        obtain ⟨h13, hF⟩ := gd_inv hF
        refine E_iald _ h12.2 (shape_ord h12.2).1 h13 dX8_hasPower_53 ?_
        refine E_icmp_le (tgt := 59) rfl dX8_hasPower_54 (fun c14 => ?_) (fun c14 => ?_)
        · have hF := ite_t hF c14
          refine E_iinc (q := 3) (v := (v3 + (1 : Int32))) (L' := [(3, .int (v3 + (1 : Int32))), (0, .ref v0), (1, .int v1), (2, .int v2)]) rfl rfl (Nat.le_of_ble_eq_true rfl) rfl dX8_hasPower_59 ?_
          refine E_goto (tgt := 19) rfl dX8_hasPower_62 ?_
          refine E_sub [1, 2, 3, 0] rfl ?_
          exact ih _ _ _ _ hv0 hF
        · have hF := ite_f hF c14
          refine E_iconst (v := (0 : Int32)) rfl dX8_hasPower_57 ?_
          exact E_zret (ty := .boolean) (Or.inl rfl) rfl rfl (by cases hF; exact hr) dX8_hasPower_58
set_option maxHeartbeats 4000000 in
set_option maxRecDepth 100000 in
theorem T_X8_hasPower {l : Launch} (hfl : l.stackTraces = false) (fl : Nat) (v0 : Nat) (v1 : Int32) (s : Mem) (hv0 : shape v0 = some (.inl 10)) (ρ : Int32) (hF : F_X8_hasPower fl v0 v1 s = some ρ) : MetN l X_X8_hasPower false NF s [.ref v0, .int v1] (.inr (some (.int ρ)), NF, s) := by
  unfold F_X8_hasPower at hF
  obtain ⟨r, hr⟩ : ∃ r : Rs, r = (.inr (some (.int ρ)), NF, s) := ⟨_, rfl⟩
  rw [← hr]
  refine met_of_E rfl rfl (by decide +kernel) hfl rfl (Nat.le_of_ble_eq_true rfl) ?_
  show E l X_X8_hasPower r false NF s 0 0 0 [(0, .ref v0), (1, .int v1)] []
  refine E_aload_n (j := 0) (i := 0) (q := 0) rfl rfl dX8_hasPower_0 ?_
  refine E_aload_n (j := 0) (i := 0) (q := 0) rfl rfl dX8_hasPower_1 ?_
  obtain ⟨r15, h16, hF⟩ := bd_inv hF
  have h16 := ldA_inv h16
  refine gf_RX8_13 rfl hv0 (shape_ord hv0).1 h16.1 dX8_hasPower_2 ?_
  refine E_iload_n (j := 1) (i := 1) (q := 1) rfl rfl dX8_hasPower_5 ?_
  obtain ⟨h17, hF⟩ := gd_inv hF
  refine E_iald _ h16.2 (shape_ord h16.2).1 h17 dX8_hasPower_6 ?_
  refine E_iconst (v := (3 : Int32)) rfl dX8_hasPower_7 ?_
  obtain ⟨q18, h19, hF⟩ := bd_inv hF
  refine E_callV (na := 2) (As := [.int (gI s r15.1 v1.toNatClampNeg), .int (3 : Int32)]) (S := []) (kc := 0) (ks := 0) (ci := 10) rfl rfl hv0 (shape_ord hv0).1 cwV_RX8_63 ⟨Nat.le_of_ble_eq_true rfl, Nat.le_of_ble_eq_true rfl⟩ (T_X8_ofPitch hfl fl _ _ _ _ hv0 _ h19) rfl rfl rfl (Nat.le_of_ble_eq_true rfl) dX8_hasPower_8 ?_
  refine E_istore_n (j := 2) (i := 2) (L' := [(2, .int q18), (0, .ref v0), (1, .int v1)]) rfl (Nat.le_of_ble_eq_true rfl) rfl dX8_hasPower_11 ?_
  refine E_aload_n (j := 0) (i := 0) (q := 1) rfl rfl dX8_hasPower_12 ?_
  obtain ⟨r20, h21, hF⟩ := bd_inv hF
  have h21 := ldA_inv h21
  refine gf_RX8_16 rfl hv0 (shape_ord hv0).1 h21.1 dX8_hasPower_13 ?_
  refine E_iload_n (j := 1) (i := 1) (q := 2) rfl rfl dX8_hasPower_16 ?_
  obtain ⟨h22, hF⟩ := gd_inv hF
  refine E_iald _ h21.2 (shape_ord h21.2).1 h22 dX8_hasPower_17 ?_
  refine E_istore_n (j := 3) (i := 3) (L' := [(3, .int (gI s r20.1 v1.toNatClampNeg)), (2, .int q18), (0, .ref v0), (1, .int v1)]) rfl (Nat.le_of_ble_eq_true rfl) rfl dX8_hasPower_18 ?_
  refine E_sub [2, 3, 1, 0] rfl ?_
  exact T_X8_hasPower_19 hfl fl hr  fl _ _ _ _ hv0 hF
set_option maxHeartbeats 4000000 in
set_option maxRecDepth 100000 in
theorem T_X8_staysLong {l : Launch} (hfl : l.stackTraces = false) (fl : Nat) (v0 : Nat) (s : Mem) (hv0 : shape v0 = some (.inl 10)) (ρ : Int32) (hF : F_X8_staysLong fl v0 s = some ρ) : MetN l X_X8_staysLong false NF s [.ref v0] (.inr (some (.int ρ)), NF, s) := by
  unfold F_X8_staysLong at hF
  obtain ⟨r, hr⟩ : ∃ r : Rs, r = (.inr (some (.int ρ)), NF, s) := ⟨_, rfl⟩
  rw [← hr]
  refine met_of_E rfl rfl (by decide +kernel) hfl rfl (Nat.le_of_ble_eq_true rfl) ?_
  show E l X_X8_staysLong r false NF s 0 0 0 [(0, .ref v0)] []
  refine E_aload_n (j := 0) (i := 0) (q := 0) rfl rfl dX8_staysLong_0 ?_
  refine E_aload_n (j := 0) (i := 0) (q := 0) rfl rfl dX8_staysLong_1 ?_
  obtain ⟨r1, h2, hF⟩ := bd_inv hF
  have h2 := ldA_inv h2
  refine gf_RX8_16 rfl hv0 (shape_ord hv0).1 h2.1 dX8_staysLong_2 ?_
  refine E_bipush (v := (12 : Int32)) rfl dX8_staysLong_5 ?_
  obtain ⟨h3, hF⟩ := gd_inv hF
  refine E_iald _ h2.2 (shape_ord h2.2).1 h3 dX8_staysLong_7 ?_
  refine E_aload_n (j := 0) (i := 0) (q := 0) rfl rfl dX8_staysLong_8 ?_
  obtain ⟨r4, h5, hF⟩ := bd_inv hF
  have h5 := ldA_inv h5
  refine gf_RX8_19 rfl hv0 (shape_ord hv0).1 h5.1 dX8_staysLong_9 ?_
  refine E_bipush (v := (12 : Int32)) rfl dX8_staysLong_12 ?_
  obtain ⟨h6, hF⟩ := gd_inv hF
  refine E_iald _ h5.2 (shape_ord h5.2).1 h6 dX8_staysLong_14 ?_
  obtain ⟨q7, h8, hF⟩ := bd_inv hF
  refine E_callV (na := 2) (As := [.int (gI s r1.1 (12 : Int32).toNatClampNeg), .int (gI s r4.1 (12 : Int32).toNatClampNeg)]) (S := []) (kc := 0) (ks := 0) (ci := 10) rfl rfl hv0 (shape_ord hv0).1 cwV_RX8_91 ⟨Nat.le_of_ble_eq_true rfl, Nat.le_of_ble_eq_true rfl⟩ (T_X8_asked hfl fl _ _ _ _ hv0 _ h8) rfl rfl rfl (Nat.le_of_ble_eq_true rfl) dX8_staysLong_15 ?_
  refine E_aload_n (j := 0) (i := 0) (q := 0) rfl rfl dX8_staysLong_18 ?_
  obtain ⟨r9, h10, hF⟩ := bd_inv hF
  have h10 := ldA_inv h10
  refine gf_RX8_19 rfl hv0 (shape_ord hv0).1 h10.1 dX8_staysLong_19 ?_
  refine E_bipush (v := (12 : Int32)) rfl dX8_staysLong_22 ?_
  obtain ⟨h11, hF⟩ := gd_inv hF
  refine E_iald _ h10.2 (shape_ord h10.2).1 h11 dX8_staysLong_24 ?_
  refine E_icmp_gt (tgt := 30) rfl dX8_staysLong_25 (fun c12 => ?_) (fun c12 => ?_)
  · have hF := ite_t hF c12
    refine E_aload_n (j := 0) (i := 0) (q := 0) rfl rfl dX8_staysLong_30 ?_
    refine E_aload_n (j := 0) (i := 0) (q := 0) rfl rfl dX8_staysLong_31 ?_
    obtain ⟨r13, h14, hF⟩ := bd_inv hF
    have h14 := ldA_inv h14
    refine gf_RX8_13 rfl hv0 (shape_ord hv0).1 h14.1 dX8_staysLong_32 ?_
    refine E_bipush (v := (12 : Int32)) rfl dX8_staysLong_35 ?_
    obtain ⟨h15, hF⟩ := gd_inv hF
    refine E_iald _ h14.2 (shape_ord h14.2).1 h15 dX8_staysLong_37 ?_
    refine E_bipush (v := (12 : Int32)) rfl dX8_staysLong_38 ?_
    obtain ⟨q16, h17, hF⟩ := bd_inv hF
    refine E_callV (na := 2) (As := [.int (gI s r13.1 (12 : Int32).toNatClampNeg), .int (12 : Int32)]) (S := []) (kc := 0) (ks := 0) (ci := 10) rfl rfl hv0 (shape_ord hv0).1 cwV_RX8_100 ⟨Nat.le_of_ble_eq_true rfl, Nat.le_of_ble_eq_true rfl⟩ (T_X8_maskOf_ hfl fl _ _ _ _ hv0 _ h17) rfl rfl rfl (Nat.le_of_ble_eq_true rfl) dX8_staysLong_40 ?_
    refine E_lstore_n (j := 1) (i := 1) (L' := [(1, .long q16), (0, .ref v0)]) rfl (Nat.le_of_ble_eq_true rfl) rfl dX8_staysLong_43 ?_
    refine E_aload_n (j := 0) (i := 0) (q := 1) rfl rfl dX8_staysLong_44 ?_
    obtain ⟨r18, h19, hF⟩ := bd_inv hF
    have h19 := ldA_inv h19
    refine gf_RX8_16 rfl hv0 (shape_ord hv0).1 h19.1 dX8_staysLong_45 ?_
    refine E_bipush (v := (12 : Int32)) rfl dX8_staysLong_48 ?_
    obtain ⟨h20, hF⟩ := gd_inv hF
    refine E_iald _ h19.2 (shape_ord h19.2).1 h20 dX8_staysLong_50 ?_
    refine E_iconst (v := (1 : Int32)) rfl dX8_staysLong_51 ?_
    refine E_isub dX8_staysLong_52 ?_
    refine E_istore_n (j := 3) (i := 3) (L' := [(3, .int ((gI s r18.1 (12 : Int32).toNatClampNeg) - (1 : Int32))), (1, .long q16), (0, .ref v0)]) rfl (Nat.le_of_ble_eq_true rfl) rfl dX8_staysLong_53 ?_
    refine E_aload_n (j := 0) (i := 0) (q := 2) rfl rfl dX8_staysLong_54 ?_
    obtain ⟨r21, h22, hF⟩ := bd_inv hF
    have h22 := ldA_inv h22
    refine gf_RX8_16 rfl hv0 (shape_ord hv0).1 h22.1 dX8_staysLong_55 ?_
    refine E_bipush (v := (12 : Int32)) rfl dX8_staysLong_58 ?_
    obtain ⟨h23, hF⟩ := gd_inv hF
    refine E_iald _ h22.2 (shape_ord h22.2).1 h23 dX8_staysLong_60 ?_
    refine E_aload_n (j := 0) (i := 0) (q := 2) rfl rfl dX8_staysLong_61 ?_
    obtain ⟨r24, h25, hF⟩ := bd_inv hF
    have h25 := ldA_inv h25
    refine gf_RX8_19 rfl hv0 (shape_ord hv0).1 h25.1 dX8_staysLong_62 ?_
    refine E_bipush (v := (12 : Int32)) rfl dX8_staysLong_65 ?_
    obtain ⟨h26, hF⟩ := gd_inv hF
    refine E_iald _ h25.2 (shape_ord h25.2).1 h26 dX8_staysLong_67 ?_
    refine E_iadd dX8_staysLong_68 ?_
    refine E_istore (L' := [(4, .int ((gI s r21.1 (12 : Int32).toNatClampNeg) + (gI s r24.1 (12 : Int32).toNatClampNeg))), (3, .int ((gI s r18.1 (12 : Int32).toNatClampNeg) - (1 : Int32))), (1, .long q16), (0, .ref v0)]) (Nat.le_of_ble_eq_true rfl) rfl dX8_staysLong_69 ?_
    refine E_iload_n (j := 3) (i := 3) (q := 1) rfl rfl dX8_staysLong_71 ?_
    obtain ⟨q27, h28, hF⟩ := bd_inv hF
    refine E_callS (na := 1) (As := [.int ((gI s r18.1 (12 : Int32).toNatClampNeg) - (1 : Int32))]) (S := []) (kc := 0) (ks := 0) cwS_RX8_88 ⟨Nat.le_of_ble_eq_true rfl, Nat.le_of_ble_eq_true rfl⟩ (T_X8_isNight hfl fl _ _  _ h28) rfl rfl rfl (Nat.le_of_ble_eq_true rfl) dX8_staysLong_72 ?_
    refine E_if_eq (tgt := 111) rfl dX8_staysLong_75 (fun c29 => ?_) (fun c29 => ?_)
    · have hF := ite_t hF c29
      refine E_iconst (v := (0 : Int32)) rfl dX8_staysLong_111 ?_
      exact E_zret (ty := .boolean) (Or.inl rfl) rfl rfl (by cases hF; exact hr) dX8_staysLong_112
    · have hF := ite_f hF c29
      refine E_iload (q := 0) rfl dX8_staysLong_78 ?_
      obtain ⟨q30, h31, hF⟩ := bd_inv hF
      refine E_callS (na := 1) (As := [.int ((gI s r21.1 (12 : Int32).toNatClampNeg) + (gI s r24.1 (12 : Int32).toNatClampNeg))]) (S := []) (kc := 0) (ks := 0) cwS_RX8_88 ⟨Nat.le_of_ble_eq_true rfl, Nat.le_of_ble_eq_true rfl⟩ (T_X8_isNight hfl fl _ _  _ h31) rfl rfl rfl (Nat.le_of_ble_eq_true rfl) dX8_staysLong_80 ?_
      refine E_if_eq (tgt := 111) rfl dX8_staysLong_83 (fun c32 => ?_) (fun c32 => ?_)
      · have hF := ite_t hF c32
        refine E_iconst (v := (0 : Int32)) rfl dX8_staysLong_111 ?_
        exact E_zret (ty := .boolean) (Or.inl rfl) rfl rfl (by cases hF; exact hr) dX8_staysLong_112
      · have hF := ite_f hF c32
        refine E_lload_n (j := 1) (i := 1) (q := 2) rfl rfl dX8_staysLong_86 ?_
        refine E_iload_n (j := 3) (i := 3) (q := 1) rfl rfl dX8_staysLong_87 ?_
        refine E_lshr dX8_staysLong_88 ?_
        refine E_lconst (v := (1 : Int64)) rfl dX8_staysLong_89 ?_
        refine E_land dX8_staysLong_90 ?_
        refine E_lconst (v := (1 : Int64)) rfl dX8_staysLong_91 ?_
        refine E_lcmp dX8_staysLong_92 ?_
        refine E_if_ne (tgt := 111) rfl dX8_staysLong_93 (fun c33 => ?_) (fun c33 => ?_)
        · have hF := ite_f hF c33
          refine E_iconst (v := (0 : Int32)) rfl dX8_staysLong_111 ?_
          exact E_zret (ty := .boolean) (Or.inl rfl) rfl rfl (by cases hF; exact hr) dX8_staysLong_112
        · have hF := ite_t hF c33
          refine E_lload_n (j := 1) (i := 1) (q := 2) rfl rfl dX8_staysLong_96 ?_
          refine E_iload (q := 0) rfl dX8_staysLong_97 ?_
          refine E_lshr dX8_staysLong_99 ?_
          refine E_lconst (v := (1 : Int64)) rfl dX8_staysLong_100 ?_
          refine E_land dX8_staysLong_101 ?_
          refine E_lconst (v := (1 : Int64)) rfl dX8_staysLong_102 ?_
          refine E_lcmp dX8_staysLong_103 ?_
          refine E_if_ne (tgt := 111) rfl dX8_staysLong_104 (fun c34 => ?_) (fun c34 => ?_)
          · have hF := ite_f hF c34
            refine E_iconst (v := (0 : Int32)) rfl dX8_staysLong_111 ?_
            exact E_zret (ty := .boolean) (Or.inl rfl) rfl rfl (by cases hF; exact hr) dX8_staysLong_112
          · have hF := ite_t hF c34
            refine E_iconst (v := (1 : Int32)) rfl dX8_staysLong_107 ?_
            refine E_goto (tgt := 112) rfl dX8_staysLong_108 ?_
            exact E_zret (ty := .boolean) (Or.inl rfl) rfl rfl (by cases hF; exact hr) dX8_staysLong_112
  · have hF := ite_f hF c12
    refine E_iconst (v := (1 : Int32)) rfl dX8_staysLong_28 ?_
    exact E_zret (ty := .boolean) (Or.inl rfl) rfl rfl (by cases hF; exact hr) dX8_staysLong_29
set_option maxHeartbeats 4000000 in
set_option maxRecDepth 100000 in
theorem T_X8_obstacleOf_87 {l : Launch} (hfl : l.stackTraces = false) (fl : Nat) {r : Rs} {ρ : (Int32 × Mem)} (hr : r = (.inr (some (.int ρ.1)), NF, ρ.2)) (v0 : Nat) (w0 : Int32) (s : Mem) (hv0 : shape v0 = some (.inl 10)) (hF : B_X8_obstacleOf_87 fl v0 w0 s = some ρ) : E l X_X8_obstacleOf r false NF s 0 0 87 [(0, .ref v0)] [.int w0] := by
  unfold B_X8_obstacleOf_87 at hF
  refine E_istore (L' := [(6, .int w0), (0, .ref v0)]) (Nat.le_of_ble_eq_true rfl) rfl dX8_obstacleOf_87 ?_
  refine E_aload_n (j := 0) (i := 0) (q := 1) rfl rfl dX8_obstacleOf_89 ?_
  obtain ⟨r1, h2, hF⟩ := bd_inv hF
  have h2 := ldA_inv h2
  refine gf_RX8_13 rfl hv0 (shape_ord hv0).1 h2.1 dX8_obstacleOf_90 ?_
  refine E_bipush (v := (12 : Int32)) rfl dX8_obstacleOf_93 ?_
  refine E_iconst (v := (-1 : Int32)) rfl dX8_obstacleOf_95 ?_
  obtain ⟨h3, hF⟩ := gd_inv hF
  refine E_iast _ h2.2 (shape_ord h2.2).1 h3 dX8_obstacleOf_96 ?_
  obtain ⟨m4, e5, hF⟩ := nx_inv hF
  refine E_mem e5 ?_
  refine E_iload (q := 0) rfl dX8_obstacleOf_97 ?_
  exact E_iret (Or.inl rfl) rfl (by cases hF; exact hr) dX8_obstacleOf_99
set_option maxHeartbeats 4000000 in
set_option maxRecDepth 100000 in
theorem T_X8_obstacleOf {l : Launch} (hfl : l.stackTraces = false) (fl : Nat) (v0 : Nat) (v1 : Int32) (v2 : Int32) (v3 : Int32) (v4 : Int32) (s : Mem) (hv0 : shape v0 = some (.inl 10)) (ρ : (Int32 × Mem)) (hF : F_X8_obstacleOf fl v0 v1 v2 v3 v4 s = some ρ) : MetN l X_X8_obstacleOf false NF s [.ref v0, .int v1, .int v2, .int v3, .int v4] (.inr (some (.int ρ.1)), NF, ρ.2) := by
  unfold F_X8_obstacleOf at hF
  obtain ⟨r, hr⟩ : ∃ r : Rs, r = (.inr (some (.int ρ.1)), NF, ρ.2) := ⟨_, rfl⟩
  rw [← hr]
  refine met_of_E rfl rfl (by decide +kernel) hfl rfl (Nat.le_of_ble_eq_true rfl) ?_
  show E l X_X8_obstacleOf r false NF s 0 0 0 [(0, .ref v0), (1, .int v1), (2, .int v2), (3, .int v3), (4, .int v4)] []
  refine E_aload_n (j := 0) (i := 0) (q := 0) rfl rfl dX8_obstacleOf_0 ?_
  refine E_iload_n (j := 1) (i := 1) (q := 1) rfl rfl dX8_obstacleOf_1 ?_
  refine E_iload_n (j := 2) (i := 2) (q := 2) rfl rfl dX8_obstacleOf_2 ?_
  refine E_iload_n (j := 3) (i := 3) (q := 3) rfl rfl dX8_obstacleOf_3 ?_
  refine E_aload_n (j := 0) (i := 0) (q := 0) rfl rfl dX8_obstacleOf_4 ?_
  obtain ⟨r6, h7, hF⟩ := bd_inv hF
  have h7 := ldA_inv h7
  refine gf_RX8_22 rfl hv0 (shape_ord hv0).1 h7.1 dX8_obstacleOf_5 ?_
  refine E_bipush (v := (12 : Int32)) rfl dX8_obstacleOf_8 ?_
  obtain ⟨h8, hF⟩ := gd_inv hF
  refine E_iald _ h7.2 (shape_ord h7.2).1 h8 dX8_obstacleOf_10 ?_
  refine E_iload (q := 4) rfl dX8_obstacleOf_11 ?_
  obtain ⟨q9, h10, hF⟩ := bd_inv hF
  refine E_callV (na := 5) (As := [.int v1, .int v2, .int v3, .int (gI s r6.1 (12 : Int32).toNatClampNeg), .int v4]) (S := []) (kc := 0) (ks := 0) (ci := 10) rfl rfl hv0 (shape_ord hv0).1 cwV_RX8_119 ⟨Nat.le_of_ble_eq_true rfl, Nat.le_of_ble_eq_true rfl⟩ (T_X8_fits hfl fl _ _ _ _ _ _ _ hv0 _ h10) rfl rfl rfl (Nat.le_of_ble_eq_true rfl) dX8_obstacleOf_13 ?_
  refine E_if_ne (tgt := 21) rfl dX8_obstacleOf_16 (fun c11 => ?_) (fun c11 => ?_)
  · have hF := ite_f hF c11
    refine E_aload_n (j := 0) (i := 0) (q := 0) rfl rfl dX8_obstacleOf_21 ?_
    obtain ⟨q12, h13, hF⟩ := bd_inv hF
    refine E_callV (na := 0) (As := []) (S := []) (kc := 0) (ks := 0) (ci := 10) rfl rfl hv0 (shape_ord hv0).1 cwV_RX8_123 ⟨Nat.le_of_ble_eq_true rfl, Nat.le_of_ble_eq_true rfl⟩ (T_X8_gapsOfAll hfl fl _ _ hv0 _ h13) rfl rfl rfl (Nat.le_of_ble_eq_true rfl) dX8_obstacleOf_22 ?_
    refine E_istore (L' := [(5, .int q12.1), (0, .ref v0), (1, .int v1), (2, .int v2), (3, .int v3), (4, .int v4)]) (Nat.le_of_ble_eq_true rfl) rfl dX8_obstacleOf_25 ?_
    refine E_aload_n (j := 0) (i := 0) (q := 1) rfl rfl dX8_obstacleOf_27 ?_
    obtain ⟨r14, h15, hF⟩ := bd_inv hF
    have h15 := ldA_inv h15
    refine gf_RX8_13 rfl hv0 (shape_ord hv0).1 h15.1 dX8_obstacleOf_28 ?_
    refine E_bipush (v := (12 : Int32)) rfl dX8_obstacleOf_31 ?_
    refine E_iload (q := 5) rfl dX8_obstacleOf_33 ?_
    obtain ⟨h16, hF⟩ := gd_inv hF
    refine E_iast _ h15.2 (shape_ord h15.2).1 h16 dX8_obstacleOf_35 ?_
    obtain ⟨m17, e18, hF⟩ := nx_inv hF
    refine E_mem e18 ?_
    refine E_aload_n (j := 0) (i := 0) (q := 1) rfl rfl dX8_obstacleOf_36 ?_
    refine E_bipush (v := (12 : Int32)) rfl dX8_obstacleOf_37 ?_
    obtain ⟨q19, h20, hF⟩ := bd_inv hF
    refine E_callV (na := 1) (As := [.int (12 : Int32)]) (S := []) (kc := 0) (ks := 0) (ci := 10) rfl rfl hv0 (shape_ord hv0).1 cwV_RX8_127 ⟨Nat.le_of_ble_eq_true rfl, Nat.le_of_ble_eq_true rfl⟩ (T_X8_isAlone hfl fl _ _ _ hv0 _ h20) rfl rfl rfl (Nat.le_of_ble_eq_true rfl) dX8_obstacleOf_39 ?_
    refine E_if_ne (tgt := 49) rfl dX8_obstacleOf_42 (fun c21 => ?_) (fun c21 => ?_)
    · have hF := ite_f hF c21
      refine E_aload_n (j := 0) (i := 0) (q := 1) rfl rfl dX8_obstacleOf_49 ?_
      refine E_bipush (v := (12 : Int32)) rfl dX8_obstacleOf_50 ?_
      obtain ⟨q22, h23, hF⟩ := bd_inv hF
      refine E_callV (na := 1) (As := [.int (12 : Int32)]) (S := []) (kc := 0) (ks := 0) (ci := 10) rfl rfl hv0 (shape_ord hv0).1 cwV_RX8_130 ⟨Nat.le_of_ble_eq_true rfl, Nat.le_of_ble_eq_true rfl⟩ (T_X8_hasPower hfl fl _ _ _ hv0 _ h23) rfl rfl rfl (Nat.le_of_ble_eq_true rfl) dX8_obstacleOf_52 ?_
      refine E_if_ne (tgt := 62) rfl dX8_obstacleOf_55 (fun c24 => ?_) (fun c24 => ?_)
      · have hF := ite_f hF c24
        refine E_aload_n (j := 0) (i := 0) (q := 1) rfl rfl dX8_obstacleOf_62 ?_
        obtain ⟨q25, h26, hF⟩ := bd_inv hF
        refine E_callV (na := 0) (As := []) (S := []) (kc := 0) (ks := 0) (ci := 10) rfl rfl hv0 (shape_ord hv0).1 cwV_RX8_133 ⟨Nat.le_of_ble_eq_true rfl, Nat.le_of_ble_eq_true rfl⟩ (T_X8_staysLong hfl fl _ _ hv0 _ h26) rfl rfl rfl (Nat.le_of_ble_eq_true rfl) dX8_obstacleOf_63 ?_
        refine E_if_ne (tgt := 73) rfl dX8_obstacleOf_66 (fun c27 => ?_) (fun c27 => ?_)
        · have hF := ite_f hF c27
          refine E_aload_n (j := 0) (i := 0) (q := 1) rfl rfl dX8_obstacleOf_73 ?_
          obtain ⟨q28, h29, hF⟩ := bd_inv hF
          refine E_callV (na := 0) (As := []) (S := []) (kc := 0) (ks := 0) (ci := 10) rfl rfl hv0 (shape_ord hv0).1 cwV_RX8_123 ⟨Nat.le_of_ble_eq_true rfl, Nat.le_of_ble_eq_true rfl⟩ (T_X8_gapsOfAll hfl fl _ _ hv0 _ h29) rfl rfl rfl (Nat.le_of_ble_eq_true rfl) dX8_obstacleOf_74 ?_
          refine E_iload (q := 0) rfl dX8_obstacleOf_77 ?_
          refine E_icmp_le (tgt := 86) rfl dX8_obstacleOf_79 (fun c30 => ?_) (fun c30 => ?_)
          · have hF := ite_t hF c30
            refine E_iconst (v := (0 : Int32)) rfl dX8_obstacleOf_86 ?_
            refine E_sub [1] rfl ?_
            exact T_X8_obstacleOf_87 hfl fl hr  _ _ _ hv0 hF
          · have hF := ite_f hF c30
            refine E_iconst (v := (5 : Int32)) rfl dX8_obstacleOf_82 ?_
            refine E_goto (tgt := 87) rfl dX8_obstacleOf_83 ?_
            refine E_sub [1] rfl ?_
            exact T_X8_obstacleOf_87 hfl fl hr  _ _ _ hv0 hF
        · have hF := ite_t hF c27
          refine E_iconst (v := (4 : Int32)) rfl dX8_obstacleOf_69 ?_
          refine E_goto (tgt := 87) rfl dX8_obstacleOf_70 ?_
          refine E_sub [1] rfl ?_
          exact T_X8_obstacleOf_87 hfl fl hr  _ _ _ hv0 hF
      · have hF := ite_t hF c24
        refine E_iconst (v := (3 : Int32)) rfl dX8_obstacleOf_58 ?_
        refine E_goto (tgt := 87) rfl dX8_obstacleOf_59 ?_
        refine E_sub [1] rfl ?_
        exact T_X8_obstacleOf_87 hfl fl hr  _ _ _ hv0 hF
    · have hF := ite_t hF c21
      refine E_iconst (v := (2 : Int32)) rfl dX8_obstacleOf_45 ?_
      refine E_goto (tgt := 87) rfl dX8_obstacleOf_46 ?_
      refine E_sub [1] rfl ?_
      exact T_X8_obstacleOf_87 hfl fl hr  _ _ _ hv0 hF
  · have hF := ite_t hF c11
    refine E_iconst (v := (1 : Int32)) rfl dX8_obstacleOf_19 ?_
    exact E_iret (Or.inl rfl) rfl (by cases hF; exact hr) dX8_obstacleOf_20
set_option maxHeartbeats 4000000 in
set_option maxRecDepth 100000 in
theorem T_X8_isRight_62 {l : Launch} (hfl : l.stackTraces = false) (fl : Nat) {r : Rs} {ρ : (Int32 × Mem)} (hr : r = (.inr (some (.int ρ.1)), NF, ρ.2)) : ∀ (n : Nat) (v0 : Nat) (v1 : Int32) (s : Mem) (hv0 : shape v0 = some (.inl 10)), B_X8_isRight_62 fl n v0 v1 s = some ρ → E l X_X8_isRight r false NF s 0 0 62 [(0, .ref v0), (1, .int v1)] [] := by
  intro n
  induction n with
  | zero =>
    intro v0 v1 s hv0 hF
    cases hF
  | succ n ih =>
    intro v0 v1 s hv0 hF
    refine E_iload_n (j := 1) (i := 1) (q := 1) rfl rfl dX8_isRight_62 ?_
    refine E_aload_n (j := 0) (i := 0) (q := 0) rfl rfl dX8_isRight_63 ?_
    refine gf_RX8_137 rfl hv0 (shape_ord hv0).1 dX8_isRight_64 ?_
    refine E_icmp_ge (tgt := 91) rfl dX8_isRight_67 (fun c1 => ?_) (fun c1 => ?_)
    · have hF := ite_t hF c1
      refine E_aload_n (j := 0) (i := 0) (q := 0) rfl rfl dX8_isRight_91 ?_
      obtain ⟨q2, h3, hF⟩ := bd_inv hF
      refine E_callV (na := 0) (As := []) (S := []) (kc := 0) (ks := 0) (ci := 10) rfl rfl hv0 (shape_ord hv0).1 cwV_RX8_123 ⟨Nat.le_of_ble_eq_true rfl, Nat.le_of_ble_eq_true rfl⟩ (T_X8_gapsOfAll hfl fl _ _ hv0 _ h3) rfl rfl rfl (Nat.le_of_ble_eq_true rfl) dX8_isRight_92 ?_
      refine E_aload_n (j := 0) (i := 0) (q := 0) rfl rfl dX8_isRight_95 ?_
      refine gf_RX8_140 rfl hv0 (shape_ord hv0).1 dX8_isRight_96 ?_
      refine E_icmp_gt (tgt := 106) rfl dX8_isRight_99 (fun c4 => ?_) (fun c4 => ?_)
      · have hF := ite_t hF c4
        refine E_iconst (v := (0 : Int32)) rfl dX8_isRight_106 ?_
        exact E_zret (ty := .boolean) (Or.inl rfl) rfl rfl (by cases hF; exact hr) dX8_isRight_107
      · have hF := ite_f hF c4
        refine E_iconst (v := (1 : Int32)) rfl dX8_isRight_102 ?_
        refine E_goto (tgt := 107) rfl dX8_isRight_103 ?_
        exact E_zret (ty := .boolean) (Or.inl rfl) rfl rfl (by cases hF; exact hr) dX8_isRight_107
    · have hF := ite_f hF c1
      refine E_aload_n (j := 0) (i := 0) (q := 0) rfl rfl dX8_isRight_70 ?_
      refine E_aload_n (j := 0) (i := 0) (q := 0) rfl rfl dX8_isRight_71 ?_
      obtain ⟨r5, h6, hF⟩ := bd_inv hF
      have h6 := ldA_inv h6
      refine gf_RX8_25 rfl hv0 (shape_ord hv0).1 h6.1 dX8_isRight_72 ?_
      refine E_iload_n (j := 1) (i := 1) (q := 1) rfl rfl dX8_isRight_75 ?_
      obtain ⟨h7, hF⟩ := gd_inv hF
      refine E_iald _ h6.2 (shape_ord h6.2).1 h7 dX8_isRight_76 ?_
      obtain ⟨q8, h9, hF⟩ := bd_inv hF
      refine E_callV (na := 1) (As := [.int (gI s r5.1 v1.toNatClampNeg)]) (S := []) (kc := 0) (ks := 0) (ci := 10) rfl rfl hv0 (shape_ord hv0).1 cwV_RX8_130 ⟨Nat.le_of_ble_eq_true rfl, Nat.le_of_ble_eq_true rfl⟩ (T_X8_hasPower hfl fl _ _ _ hv0 _ h9) rfl rfl rfl (Nat.le_of_ble_eq_true rfl) dX8_isRight_77 ?_
      refine E_if_ne (tgt := 85) rfl dX8_isRight_80 (fun c10 => ?_) (fun c10 => ?_)
      · have hF := ite_f hF c10
        refine E_iinc (q := 1) (v := (v1 + (1 : Int32))) (L' := [(1, .int (v1 + (1 : Int32))), (0, .ref v0)]) rfl rfl (Nat.le_of_ble_eq_true rfl) rfl dX8_isRight_85 ?_
        refine E_goto (tgt := 62) rfl dX8_isRight_88 ?_
        refine E_sub [1, 0] rfl ?_
        exact ih _ _ _ hv0 hF
      · have hF := ite_t hF c10
        refine E_iconst (v := (0 : Int32)) rfl dX8_isRight_83 ?_
        exact E_zret (ty := .boolean) (Or.inl rfl) rfl rfl (by cases hF; exact hr) dX8_isRight_84
set_option maxHeartbeats 4000000 in
set_option maxRecDepth 100000 in
theorem T_X8_isRight_13 {l : Launch} (hfl : l.stackTraces = false) (fl : Nat) {r : Rs} {ρ : (Int32 × Mem)} (hr : r = (.inr (some (.int ρ.1)), NF, ρ.2)) : ∀ (n : Nat) (v0 : Nat) (v1 : Int32) (s : Mem) (hv0 : shape v0 = some (.inl 10)), B_X8_isRight_13 fl n v0 v1 s = some ρ → E l X_X8_isRight r false NF s 0 0 13 [(0, .ref v0), (1, .int v1)] [] := by
  intro n
  induction n with
  | zero =>
    intro v0 v1 s hv0 hF
    cases hF
  | succ n ih =>
    intro v0 v1 s hv0 hF
    refine E_iload_n (j := 1) (i := 1) (q := 1) rfl rfl dX8_isRight_13 ?_
    refine E_aload_n (j := 0) (i := 0) (q := 0) rfl rfl dX8_isRight_14 ?_
    refine gf_RX8_137 rfl hv0 (shape_ord hv0).1 dX8_isRight_15 ?_
    refine E_icmp_ge (tgt := 42) rfl dX8_isRight_18 (fun c11 => ?_) (fun c11 => ?_)
    · have hF := ite_t hF c11
      refine E_aload_n (j := 0) (i := 0) (q := 0) rfl rfl dX8_isRight_42 ?_
      refine E_bipush (v := (12 : Int32)) rfl dX8_isRight_43 ?_
      obtain ⟨q12, h13, hF⟩ := bd_inv hF
      refine E_callV (na := 1) (As := [.int (12 : Int32)]) (S := []) (kc := 0) (ks := 0) (ci := 10) rfl rfl hv0 (shape_ord hv0).1 cwV_RX8_130 ⟨Nat.le_of_ble_eq_true rfl, Nat.le_of_ble_eq_true rfl⟩ (T_X8_hasPower hfl fl _ _ _ hv0 _ h13) rfl rfl rfl (Nat.le_of_ble_eq_true rfl) dX8_isRight_45 ?_
      refine E_if_eq (tgt := 58) rfl dX8_isRight_48 (fun c14 => ?_) (fun c14 => ?_)
      · have hF := ite_t hF c14
        refine E_iconst (v := (0 : Int32)) rfl dX8_isRight_58 ?_
        exact E_zret (ty := .boolean) (Or.inl rfl) rfl rfl (by cases hF; exact hr) dX8_isRight_59
      · have hF := ite_f hF c14
        refine E_aload_n (j := 0) (i := 0) (q := 0) rfl rfl dX8_isRight_51 ?_
        obtain ⟨q15, h16, hF⟩ := bd_inv hF
        refine E_callV (na := 0) (As := []) (S := []) (kc := 0) (ks := 0) (ci := 10) rfl rfl hv0 (shape_ord hv0).1 cwV_RX8_133 ⟨Nat.le_of_ble_eq_true rfl, Nat.le_of_ble_eq_true rfl⟩ (T_X8_staysLong hfl fl _ _ hv0 _ h16) rfl rfl rfl (Nat.le_of_ble_eq_true rfl) dX8_isRight_52 ?_
        refine E_if_ne (tgt := 60) rfl dX8_isRight_55 (fun c17 => ?_) (fun c17 => ?_)
        · have hF := ite_f hF c17
          refine E_iconst (v := (0 : Int32)) rfl dX8_isRight_60 ?_
          refine E_istore_n (j := 1) (i := 1) (L' := [(1, .int (0 : Int32)), (0, .ref v0)]) rfl (Nat.le_of_ble_eq_true rfl) rfl dX8_isRight_61 ?_
          refine E_sub [1, 0] rfl ?_
          exact T_X8_isRight_62 hfl fl hr  fl _ _ _ hv0 hF
        · have hF := ite_t hF c17
          refine E_iconst (v := (0 : Int32)) rfl dX8_isRight_58 ?_
          exact E_zret (ty := .boolean) (Or.inl rfl) rfl rfl (by cases hF; exact hr) dX8_isRight_59
    · have hF := ite_f hF c11
      refine E_aload_n (j := 0) (i := 0) (q := 0) rfl rfl dX8_isRight_21 ?_
      refine E_aload_n (j := 0) (i := 0) (q := 0) rfl rfl dX8_isRight_22 ?_
      obtain ⟨r18, h19, hF⟩ := bd_inv hF
      have h19 := ldA_inv h19
      refine gf_RX8_25 rfl hv0 (shape_ord hv0).1 h19.1 dX8_isRight_23 ?_
      refine E_iload_n (j := 1) (i := 1) (q := 1) rfl rfl dX8_isRight_26 ?_
      obtain ⟨h20, hF⟩ := gd_inv hF
      refine E_iald _ h19.2 (shape_ord h19.2).1 h20 dX8_isRight_27 ?_
      obtain ⟨q21, h22, hF⟩ := bd_inv hF
      refine E_callV (na := 1) (As := [.int (gI s r18.1 v1.toNatClampNeg)]) (S := []) (kc := 0) (ks := 0) (ci := 10) rfl rfl hv0 (shape_ord hv0).1 cwV_RX8_127 ⟨Nat.le_of_ble_eq_true rfl, Nat.le_of_ble_eq_true rfl⟩ (T_X8_isAlone hfl fl _ _ _ hv0 _ h22) rfl rfl rfl (Nat.le_of_ble_eq_true rfl) dX8_isRight_28 ?_
      refine E_if_ne (tgt := 36) rfl dX8_isRight_31 (fun c23 => ?_) (fun c23 => ?_)
      · have hF := ite_f hF c23
        refine E_iinc (q := 1) (v := (v1 + (1 : Int32))) (L' := [(1, .int (v1 + (1 : Int32))), (0, .ref v0)]) rfl rfl (Nat.le_of_ble_eq_true rfl) rfl dX8_isRight_36 ?_
        refine E_goto (tgt := 13) rfl dX8_isRight_39 ?_
        refine E_sub [1, 0] rfl ?_
        exact ih _ _ _ hv0 hF
      · have hF := ite_t hF c23
        refine E_iconst (v := (0 : Int32)) rfl dX8_isRight_34 ?_
        exact E_zret (ty := .boolean) (Or.inl rfl) rfl rfl (by cases hF; exact hr) dX8_isRight_35
set_option maxHeartbeats 4000000 in
set_option maxRecDepth 100000 in
theorem T_X8_isRight {l : Launch} (hfl : l.stackTraces = false) (fl : Nat) (v0 : Nat) (s : Mem) (hv0 : shape v0 = some (.inl 10)) (ρ : (Int32 × Mem)) (hF : F_X8_isRight fl v0 s = some ρ) : MetN l X_X8_isRight false NF s [.ref v0] (.inr (some (.int ρ.1)), NF, ρ.2) := by
  unfold F_X8_isRight at hF
  obtain ⟨r, hr⟩ : ∃ r : Rs, r = (.inr (some (.int ρ.1)), NF, ρ.2) := ⟨_, rfl⟩
  rw [← hr]
  refine met_of_E rfl rfl (by decide +kernel) hfl rfl (Nat.le_of_ble_eq_true rfl) ?_
  show E l X_X8_isRight r false NF s 0 0 0 [(0, .ref v0)] []
  refine E_aload_n (j := 0) (i := 0) (q := 0) rfl rfl dX8_isRight_0 ?_
  refine E_bipush (v := (12 : Int32)) rfl dX8_isRight_1 ?_
  obtain ⟨q24, h25, hF⟩ := bd_inv hF
  refine E_callV (na := 1) (As := [.int (12 : Int32)]) (S := []) (kc := 0) (ks := 0) (ci := 10) rfl rfl hv0 (shape_ord hv0).1 cwV_RX8_127 ⟨Nat.le_of_ble_eq_true rfl, Nat.le_of_ble_eq_true rfl⟩ (T_X8_isAlone hfl fl _ _ _ hv0 _ h25) rfl rfl rfl (Nat.le_of_ble_eq_true rfl) dX8_isRight_3 ?_
  refine E_if_ne (tgt := 11) rfl dX8_isRight_6 (fun c26 => ?_) (fun c26 => ?_)
  · have hF := ite_f hF c26
    refine E_iconst (v := (0 : Int32)) rfl dX8_isRight_11 ?_
    refine E_istore_n (j := 1) (i := 1) (L' := [(1, .int (0 : Int32)), (0, .ref v0)]) rfl (Nat.le_of_ble_eq_true rfl) rfl dX8_isRight_12 ?_
    refine E_sub [1, 0] rfl ?_
    exact T_X8_isRight_13 hfl fl hr  fl _ _ _ hv0 hF
  · have hF := ite_t hF c26
    refine E_iconst (v := (0 : Int32)) rfl dX8_isRight_9 ?_
    exact E_zret (ty := .boolean) (Or.inl rfl) rfl rfl (by cases hF; exact hr) dX8_isRight_10
set_option maxHeartbeats 4000000 in
set_option maxRecDepth 100000 in
theorem T_X8_canMove {l : Launch} (hfl : l.stackTraces = false) (fl : Nat) (v0 : Nat) (v1 : Int32) (s : Mem) (hv0 : shape v0 = some (.inl 10)) (ρ : Int32) (hF : F_X8_canMove fl v0 v1 s = some ρ) : MetN l X_X8_canMove false NF s [.ref v0, .int v1] (.inr (some (.int ρ)), NF, s) := by
  unfold F_X8_canMove at hF
  obtain ⟨r, hr⟩ : ∃ r : Rs, r = (.inr (some (.int ρ)), NF, s) := ⟨_, rfl⟩
  rw [← hr]
  refine met_of_E rfl rfl (by decide +kernel) hfl rfl (Nat.le_of_ble_eq_true rfl) ?_
  show E l X_X8_canMove r false NF s 0 0 0 [(0, .ref v0), (1, .int v1)] []
  refine E_aload_n (j := 0) (i := 0) (q := 0) rfl rfl dX8_canMove_0 ?_
  obtain ⟨r1, h2, hF⟩ := bd_inv hF
  have h2 := ldA_inv h2
  refine gf_RX8_13 rfl hv0 (shape_ord hv0).1 h2.1 dX8_canMove_1 ?_
  refine E_iload_n (j := 1) (i := 1) (q := 1) rfl rfl dX8_canMove_4 ?_
  obtain ⟨h3, hF⟩ := gd_inv hF
  refine E_iald _ h2.2 (shape_ord h2.2).1 h3 dX8_canMove_5 ?_
  refine E_if_lt (tgt := 28) rfl dX8_canMove_6 (fun c4 => ?_) (fun c4 => ?_)
  · have hF := ite_t hF c4
    refine E_iconst (v := (0 : Int32)) rfl dX8_canMove_28 ?_
    exact E_zret (ty := .boolean) (Or.inl rfl) rfl rfl (by cases hF; exact hr) dX8_canMove_29
  · have hF := ite_f hF c4
    refine E_aload_n (j := 0) (i := 0) (q := 0) rfl rfl dX8_canMove_9 ?_
    refine E_iload_n (j := 1) (i := 1) (q := 1) rfl rfl dX8_canMove_10 ?_
    refine E_iconst (v := (4 : Int32)) rfl dX8_canMove_11 ?_
    obtain ⟨q5, h6, hF⟩ := bd_inv hF
    refine E_callV (na := 2) (As := [.int v1, .int (4 : Int32)]) (S := []) (kc := 0) (ks := 0) (ci := 10) rfl rfl hv0 (shape_ord hv0).1 cwV_RX8_97 ⟨Nat.le_of_ble_eq_true rfl, Nat.le_of_ble_eq_true rfl⟩ (T_X8_of hfl fl _ _ _ _ hv0 _ h6) rfl rfl rfl (Nat.le_of_ble_eq_true rfl) dX8_canMove_12 ?_
    refine E_aload_n (j := 0) (i := 0) (q := 0) rfl rfl dX8_canMove_15 ?_
    obtain ⟨r7, h8, hF⟩ := bd_inv hF
    have h8 := ldA_inv h8
    refine gf_RX8_9 rfl hv0 (shape_ord hv0).1 h8.1 dX8_canMove_16 ?_
    refine E_iconst (v := (3 : Int32)) rfl dX8_canMove_19 ?_
    obtain ⟨h9, hF⟩ := gd_inv hF
    refine E_iald _ h8.2 (shape_ord h8.2).1 h9 dX8_canMove_20 ?_
    refine E_icmp_lt (tgt := 28) rfl dX8_canMove_21 (fun c10 => ?_) (fun c10 => ?_)
    · have hF := ite_t hF c10
      refine E_iconst (v := (0 : Int32)) rfl dX8_canMove_28 ?_
      exact E_zret (ty := .boolean) (Or.inl rfl) rfl rfl (by cases hF; exact hr) dX8_canMove_29
    · have hF := ite_f hF c10
      refine E_iconst (v := (1 : Int32)) rfl dX8_canMove_24 ?_
      refine E_goto (tgt := 29) rfl dX8_canMove_25 ?_
      exact E_zret (ty := .boolean) (Or.inl rfl) rfl rfl (by cases hF; exact hr) dX8_canMove_29
set_option maxHeartbeats 4000000 in
set_option maxRecDepth 100000 in
theorem T_X8_plans_164 {l : Launch} (hfl : l.stackTraces = false) {d9 : Nat} {self : Nat → Int32 → Int32 → Mem → Option (Int32 × Mem)} (hself : ∀ (v0 : Nat) (v1 v2 : Int32) (s : Mem) (hv0 : shape v0 = some (.inl 10)) (ρ : (Int32 × Mem)), self v0 v1 v2 s = some ρ → MetN l (X_X8_plans d9) false NF s [.ref v0, .int v1, .int v2] (.inr (some (.int ρ.1)), NF, ρ.2)) (fl : Nat) {r : Rs} {ρ : (Int32 × Mem)} (hr : r = (.inr (some (.int ρ.1)), NF, ρ.2)) {k11 : Nat → Int32 → Int32 → Mem → Option (Int32 × Mem)} (hk11 : ∀ (v0 : Nat) (v2 : Int32) (v3 : Int32) (s : Mem) (hv0 : shape v0 = some (.inl 10)), k11 v0 v2 v3 s = some ρ → E l (X_X8_plans (d9 + 1)) r false NF s 0 0 11 [(0, .ref v0), (2, .int v2), (3, .int v3)] []) (v0 : Nat) (v2 : Int32) (v3 : Int32) (s : Mem) (hv0 : shape v0 = some (.inl 10)) (hF : B_X8_plans_164 self k11 fl v0 v2 v3 s = some ρ) : E l (X_X8_plans (d9 + 1)) r false NF s 0 0 164 [(0, .ref v0), (2, .int v2), (3, .int v3)] [] := by
  unfold B_X8_plans_164 at hF
  refine E_iinc (q := 2) (v := (v3 + (1 : Int32))) (L' := [(3, .int (v3 + (1 : Int32))), (0, .ref v0), (2, .int v2)]) rfl rfl (Nat.le_of_ble_eq_true rfl) rfl dX8_plans_164 ?_
  refine E_goto (tgt := 11) rfl dX8_plans_167 ?_
  refine E_sub [1, 2, 0] rfl ?_
  exact hk11 _ _ _ _ hv0 hF
set_option maxHeartbeats 4000000 in
set_option maxRecDepth 100000 in
theorem T_X8_plans_150 {l : Launch} (hfl : l.stackTraces = false) {d9 : Nat} {self : Nat → Int32 → Int32 → Mem → Option (Int32 × Mem)} (hself : ∀ (v0 : Nat) (v1 v2 : Int32) (s : Mem) (hv0 : shape v0 = some (.inl 10)) (ρ : (Int32 × Mem)), self v0 v1 v2 s = some ρ → MetN l (X_X8_plans d9) false NF s [.ref v0, .int v1, .int v2] (.inr (some (.int ρ.1)), NF, ρ.2)) (fl : Nat) {r : Rs} {ρ : (Int32 × Mem)} (hr : r = (.inr (some (.int ρ.1)), NF, ρ.2)) {k11 : Nat → Int32 → Int32 → Mem → Option (Int32 × Mem)} (hk11 : ∀ (v0 : Nat) (v2 : Int32) (v3 : Int32) (s : Mem) (hv0 : shape v0 = some (.inl 10)), k11 v0 v2 v3 s = some ρ → E l (X_X8_plans (d9 + 1)) r false NF s 0 0 11 [(0, .ref v0), (2, .int v2), (3, .int v3)] []) {k43 : Nat → Int32 → Int32 → Int32 → Int32 → Mem → Option (Int32 × Mem)} (hk43 : ∀ (v0 : Nat) (v2 : Int32) (v3 : Int32) (v4 : Int32) (v5 : Int32) (s : Mem) (hv0 : shape v0 = some (.inl 10)), k43 v0 v2 v3 v4 v5 s = some ρ → E l (X_X8_plans (d9 + 1)) r false NF s 0 0 43 [(0, .ref v0), (2, .int v2), (3, .int v3), (4, .int v4), (5, .int v5)] []) (v0 : Nat) (v2 : Int32) (v3 : Int32) (v4 : Int32) (v5 : Int32) (s : Mem) (hv0 : shape v0 = some (.inl 10)) (hF : B_X8_plans_150 self k11 k43 fl v0 v2 v3 v4 v5 s = some ρ) : E l (X_X8_plans (d9 + 1)) r false NF s 0 0 150 [(0, .ref v0), (2, .int v2), (3, .int v3), (4, .int v4), (5, .int v5)] [] := by
  unfold B_X8_plans_150 at hF
  refine E_iinc (q := 4) (v := (v5 + (1 : Int32))) (L' := [(5, .int (v5 + (1 : Int32))), (0, .ref v0), (2, .int v2), (3, .int v3), (4, .int v4)]) rfl rfl (Nat.le_of_ble_eq_true rfl) rfl dX8_plans_150 ?_
  refine E_goto (tgt := 43) rfl dX8_plans_153 ?_
  refine E_sub [1, 2, 3, 4, 0] rfl ?_
  exact hk43 _ _ _ _ _ _ hv0 hF
set_option maxHeartbeats 4000000 in
set_option maxRecDepth 100000 in
theorem T_X8_plans_43 {l : Launch} (hfl : l.stackTraces = false) {d9 : Nat} {self : Nat → Int32 → Int32 → Mem → Option (Int32 × Mem)} (hself : ∀ (v0 : Nat) (v1 v2 : Int32) (s : Mem) (hv0 : shape v0 = some (.inl 10)) (ρ : (Int32 × Mem)), self v0 v1 v2 s = some ρ → MetN l (X_X8_plans d9) false NF s [.ref v0, .int v1, .int v2] (.inr (some (.int ρ.1)), NF, ρ.2)) (fl : Nat) {r : Rs} {ρ : (Int32 × Mem)} (hr : r = (.inr (some (.int ρ.1)), NF, ρ.2)) {k11 : Nat → Int32 → Int32 → Mem → Option (Int32 × Mem)} (hk11 : ∀ (v0 : Nat) (v2 : Int32) (v3 : Int32) (s : Mem) (hv0 : shape v0 = some (.inl 10)), k11 v0 v2 v3 s = some ρ → E l (X_X8_plans (d9 + 1)) r false NF s 0 0 11 [(0, .ref v0), (2, .int v2), (3, .int v3)] []) : ∀ (n : Nat) (v0 : Nat) (v2 : Int32) (v3 : Int32) (v4 : Int32) (v5 : Int32) (s : Mem) (hv0 : shape v0 = some (.inl 10)), B_X8_plans_43 self k11 fl n v0 v2 v3 v4 v5 s = some ρ → E l (X_X8_plans (d9 + 1)) r false NF s 0 0 43 [(0, .ref v0), (2, .int v2), (3, .int v3), (4, .int v4), (5, .int v5)] [] := by
  intro n
  induction n with
  | zero =>
    intro v0 v2 v3 v4 v5 s hv0 hF
    cases hF
  | succ n ih =>
    intro v0 v2 v3 v4 v5 s hv0 hF
    refine E_iload (q := 4) rfl dX8_plans_43 ?_
    refine E_aload_n (j := 0) (i := 0) (q := 0) rfl rfl dX8_plans_45 ?_
    obtain ⟨r1, h2, hF⟩ := bd_inv hF
    have h2 := ldA_inv h2
    refine gf_RX8_9 rfl hv0 (shape_ord hv0).1 h2.1 dX8_plans_46 ?_
    refine E_iconst (v := (0 : Int32)) rfl dX8_plans_49 ?_
    obtain ⟨h3, hF⟩ := gd_inv hF
    refine E_iald _ h2.2 (shape_ord h2.2).1 h3 dX8_plans_50 ?_
    refine E_icmp_ge (tgt := 156) rfl dX8_plans_51 (fun c4 => ?_) (fun c4 => ?_)
    · have hF := ite_t hF c4
      refine E_aload_n (j := 0) (i := 0) (q := 0) rfl rfl dX8_plans_156 ?_
      obtain ⟨r5, h6, hF⟩ := bd_inv hF
      have h6 := ldA_inv h6
      refine gf_RX8_13 rfl hv0 (shape_ord hv0).1 h6.1 dX8_plans_157 ?_
      refine E_iload_n (j := 3) (i := 3) (q := 2) rfl rfl dX8_plans_160 ?_
      refine E_iload (q := 3) rfl dX8_plans_161 ?_
      obtain ⟨h7, hF⟩ := gd_inv hF
      refine E_iast _ h6.2 (shape_ord h6.2).1 h7 dX8_plans_163 ?_
      obtain ⟨m8, e9, hF⟩ := nx_inv hF
      refine E_mem e9 ?_
      refine E_sub [0, 1, 2] rfl ?_
      exact T_X8_plans_164 hfl hself fl hr hk11 _ _ _ _ hv0 hF
    · have hF := ite_f hF c4
      refine E_iload (q := 4) rfl dX8_plans_54 ?_
      refine E_iload (q := 3) rfl dX8_plans_56 ?_
      refine E_icmp_eq (tgt := 150) rfl dX8_plans_58 (fun c10 => ?_) (fun c10 => ?_)
      · have hF := ite_t hF c10
        refine E_sub [0, 1, 2, 3, 4] rfl ?_
        exact T_X8_plans_150 hfl hself fl hr hk11 ih _ _ _ _ _ _ hv0 hF
      · have hF := ite_f hF c10
        refine E_aload_n (j := 0) (i := 0) (q := 0) rfl rfl dX8_plans_61 ?_
        refine E_aload_n (j := 0) (i := 0) (q := 0) rfl rfl dX8_plans_62 ?_
        refine E_iload_n (j := 3) (i := 3) (q := 2) rfl rfl dX8_plans_63 ?_
        refine E_iconst (v := (0 : Int32)) rfl dX8_plans_64 ?_
        obtain ⟨q11, h12, hF⟩ := bd_inv hF
        refine E_callV (na := 2) (As := [.int v3, .int (0 : Int32)]) (S := [.ref v0]) (kc := 0) (ks := 0) (ci := 10) rfl rfl hv0 (shape_ord hv0).1 cwV_RX8_97 ⟨by show 8 + 0 + 1 ≤ 8 + (5 + (d9 + 1)); omega, by show 8 + (3 + 11) + (200 + 60 * 0) ≤ 200 + 60 * (5 + (d9 + 1)); omega⟩ (T_X8_of hfl fl _ _ _ _ hv0 _ h12) rfl rfl rfl (Nat.le_of_ble_eq_true rfl) dX8_plans_65 ?_
        refine E_aload_n (j := 0) (i := 0) (q := 0) rfl rfl dX8_plans_68 ?_
        refine E_iload_n (j := 3) (i := 3) (q := 2) rfl rfl dX8_plans_69 ?_
        refine E_iconst (v := (1 : Int32)) rfl dX8_plans_70 ?_
        obtain ⟨q13, h14, hF⟩ := bd_inv hF
        refine E_callV (na := 2) (As := [.int v3, .int (1 : Int32)]) (S := [.int q11, .ref v0]) (kc := 0) (ks := 0) (ci := 10) rfl rfl hv0 (shape_ord hv0).1 cwV_RX8_97 ⟨by show 8 + 0 + 1 ≤ 8 + (5 + (d9 + 1)); omega, by show 8 + (3 + 11) + (200 + 60 * 0) ≤ 200 + 60 * (5 + (d9 + 1)); omega⟩ (T_X8_of hfl fl _ _ _ _ hv0 _ h14) rfl rfl rfl (Nat.le_of_ble_eq_true rfl) dX8_plans_71 ?_
        refine E_aload_n (j := 0) (i := 0) (q := 0) rfl rfl dX8_plans_74 ?_
        refine E_iload_n (j := 3) (i := 3) (q := 2) rfl rfl dX8_plans_75 ?_
        refine E_iconst (v := (2 : Int32)) rfl dX8_plans_76 ?_
        obtain ⟨q15, h16, hF⟩ := bd_inv hF
        refine E_callV (na := 2) (As := [.int v3, .int (2 : Int32)]) (S := [.int q13, .int q11, .ref v0]) (kc := 0) (ks := 0) (ci := 10) rfl rfl hv0 (shape_ord hv0).1 cwV_RX8_97 ⟨by show 8 + 0 + 1 ≤ 8 + (5 + (d9 + 1)); omega, by show 8 + (3 + 11) + (200 + 60 * 0) ≤ 200 + 60 * (5 + (d9 + 1)); omega⟩ (T_X8_of hfl fl _ _ _ _ hv0 _ h16) rfl rfl rfl (Nat.le_of_ble_eq_true rfl) dX8_plans_77 ?_
        refine E_aload_n (j := 0) (i := 0) (q := 0) rfl rfl dX8_plans_80 ?_
        refine E_iload_n (j := 3) (i := 3) (q := 2) rfl rfl dX8_plans_81 ?_
        refine E_iconst (v := (3 : Int32)) rfl dX8_plans_82 ?_
        obtain ⟨q17, h18, hF⟩ := bd_inv hF
        refine E_callV (na := 2) (As := [.int v3, .int (3 : Int32)]) (S := [.int q15, .int q13, .int q11, .ref v0]) (kc := 0) (ks := 0) (ci := 10) rfl rfl hv0 (shape_ord hv0).1 cwV_RX8_97 ⟨by show 8 + 0 + 1 ≤ 8 + (5 + (d9 + 1)); omega, by show 8 + (3 + 11) + (200 + 60 * 0) ≤ 200 + 60 * (5 + (d9 + 1)); omega⟩ (T_X8_of hfl fl _ _ _ _ hv0 _ h18) rfl rfl rfl (Nat.le_of_ble_eq_true rfl) dX8_plans_83 ?_
        refine E_iload (q := 4) rfl dX8_plans_86 ?_
        obtain ⟨q19, h20, hF⟩ := bd_inv hF
        refine E_callV (na := 5) (As := [.int q11, .int q13, .int q15, .int q17, .int v5]) (S := []) (kc := 0) (ks := 0) (ci := 10) rfl rfl hv0 (shape_ord hv0).1 cwV_RX8_119 ⟨by show 8 + 1 + 1 ≤ 8 + (5 + (d9 + 1)); omega, by show 8 + (8 + 11) + (200 + 60 * 1) ≤ 200 + 60 * (5 + (d9 + 1)); omega⟩ (T_X8_fits hfl fl _ _ _ _ _ _ _ hv0 _ h20) rfl rfl rfl (Nat.le_of_ble_eq_true rfl) dX8_plans_88 ?_
        refine E_if_ne (tgt := 97) rfl dX8_plans_91 (fun c21 => ?_) (fun c21 => ?_)
        · have hF := ite_f hF c21
          refine E_aload_n (j := 0) (i := 0) (q := 0) rfl rfl dX8_plans_97 ?_
          obtain ⟨r22, h23, hF⟩ := bd_inv hF
          have h23 := ldA_inv h23
          refine gf_RX8_13 rfl hv0 (shape_ord hv0).1 h23.1 dX8_plans_98 ?_
          refine E_iload_n (j := 3) (i := 3) (q := 2) rfl rfl dX8_plans_101 ?_
          refine E_iload (q := 4) rfl dX8_plans_102 ?_
          obtain ⟨h24, hF⟩ := gd_inv hF
          refine E_iast _ h23.2 (shape_ord h23.2).1 h24 dX8_plans_104 ?_
          obtain ⟨m25, e26, hF⟩ := nx_inv hF
          refine E_mem e26 ?_
          refine E_aload_n (j := 0) (i := 0) (q := 0) rfl rfl dX8_plans_105 ?_
          obtain ⟨r27, h28, hF⟩ := bd_inv hF
          have h28 := ldA_inv h28
          refine gf_RX8_25 rfl hv0 (shape_ord hv0).1 h28.1 dX8_plans_106 ?_
          refine E_aload_n (j := 0) (i := 0) (q := 0) rfl rfl dX8_plans_109 ?_
          refine gf_RX8_137 rfl hv0 (shape_ord hv0).1 dX8_plans_110 ?_
          refine E_iload_n (j := 3) (i := 3) (q := 2) rfl rfl dX8_plans_113 ?_
          obtain ⟨h29, hF⟩ := gd_inv hF
          refine E_iast _ h28.2 (shape_ord h28.2).1 h29 dX8_plans_114 ?_
          obtain ⟨m30, e31, hF⟩ := nx_inv hF
          refine E_mem e31 ?_
          refine E_aload_n (j := 0) (i := 0) (q := 0) rfl rfl dX8_plans_115 ?_
          refine E_dup rfl dX8_plans_116 ?_
          refine gf_RX8_137 rfl hv0 (shape_ord hv0).1 dX8_plans_117 ?_
          refine E_iconst (v := (1 : Int32)) rfl dX8_plans_120 ?_
          refine E_iadd dX8_plans_121 ?_
          refine pf_RX8_137 rfl hv0 (shape_ord hv0).1 dX8_plans_122 ?_
          obtain ⟨m32, e33, hF⟩ := nx_inv hF
          refine E_mem e33 ?_
          refine E_aload_n (j := 0) (i := 0) (q := 0) rfl rfl dX8_plans_125 ?_
          refine E_iload_n (j := 3) (i := 3) (q := 2) rfl rfl dX8_plans_126 ?_
          refine E_iconst (v := (1 : Int32)) rfl dX8_plans_127 ?_
          refine E_iadd dX8_plans_128 ?_
          refine E_iload_n (j := 2) (i := 2) (q := 1) rfl rfl dX8_plans_129 ?_
          refine E_iconst (v := (1 : Int32)) rfl dX8_plans_130 ?_
          refine E_isub dX8_plans_131 ?_
          obtain ⟨q34, h35, hF⟩ := bd_inv hF
          refine E_callV (na := 2) (As := [.int (v3 + (1 : Int32)), .int (v2 - (1 : Int32))]) (S := []) (kc := 0) (ks := 0) (ci := 10) rfl rfl hv0 (shape_ord hv0).1 (cwV_RX8_149_d d9) ⟨by show 8 + (5 + d9) + 1 ≤ 8 + (5 + (d9 + 1)); omega, by show 8 + (6 + 11) + (200 + 60 * (5 + d9)) ≤ 200 + 60 * (5 + (d9 + 1)); omega⟩ (hself _ _ _ _ hv0 _ h35) rfl rfl rfl (Nat.le_of_ble_eq_true rfl) dX8_plans_132 ?_
          refine E_if_eq (tgt := 140) rfl dX8_plans_135 (fun c36 => ?_) (fun c36 => ?_)
          · have hF := ite_t hF c36
            refine E_aload_n (j := 0) (i := 0) (q := 0) rfl rfl dX8_plans_140 ?_
            refine E_dup rfl dX8_plans_141 ?_
            refine gf_RX8_137 rfl hv0 (shape_ord hv0).1 dX8_plans_142 ?_
            refine E_iconst (v := (1 : Int32)) rfl dX8_plans_145 ?_
            refine E_isub dX8_plans_146 ?_
            refine pf_RX8_137 rfl hv0 (shape_ord hv0).1 dX8_plans_147 ?_
            obtain ⟨m37, e38, hF⟩ := nx_inv hF
            refine E_mem e38 ?_
            refine E_sub [0, 1, 2, 3, 4] rfl ?_
            exact T_X8_plans_150 hfl hself fl hr hk11 ih _ _ _ _ _ _ hv0 hF
          · have hF := ite_f hF c36
            refine E_iconst (v := (1 : Int32)) rfl dX8_plans_138 ?_
            exact E_zret (ty := .boolean) (Or.inl rfl) rfl rfl (by cases hF; exact hr) dX8_plans_139
        · have hF := ite_t hF c21
          refine E_goto (tgt := 150) rfl dX8_plans_94 ?_
          refine E_sub [0, 1, 2, 3, 4] rfl ?_
          exact T_X8_plans_150 hfl hself fl hr hk11 ih _ _ _ _ _ _ hv0 hF
set_option maxHeartbeats 4000000 in
set_option maxRecDepth 100000 in
theorem T_X8_plans_11 {l : Launch} (hfl : l.stackTraces = false) {d9 : Nat} {self : Nat → Int32 → Int32 → Mem → Option (Int32 × Mem)} (hself : ∀ (v0 : Nat) (v1 v2 : Int32) (s : Mem) (hv0 : shape v0 = some (.inl 10)) (ρ : (Int32 × Mem)), self v0 v1 v2 s = some ρ → MetN l (X_X8_plans d9) false NF s [.ref v0, .int v1, .int v2] (.inr (some (.int ρ.1)), NF, ρ.2)) (fl : Nat) {r : Rs} {ρ : (Int32 × Mem)} (hr : r = (.inr (some (.int ρ.1)), NF, ρ.2)) : ∀ (n : Nat) (v0 : Nat) (v2 : Int32) (v3 : Int32) (s : Mem) (hv0 : shape v0 = some (.inl 10)), B_X8_plans_11 self fl n v0 v2 v3 s = some ρ → E l (X_X8_plans (d9 + 1)) r false NF s 0 0 11 [(0, .ref v0), (2, .int v2), (3, .int v3)] [] := by
  intro n
  induction n with
  | zero =>
    intro v0 v2 v3 s hv0 hF
    cases hF
  | succ n ih =>
    intro v0 v2 v3 s hv0 hF
    refine E_iload_n (j := 3) (i := 3) (q := 2) rfl rfl dX8_plans_11 ?_
    refine E_aload_n (j := 0) (i := 0) (q := 0) rfl rfl dX8_plans_12 ?_
    obtain ⟨r39, h40, hF⟩ := bd_inv hF
    have h40 := ldA_inv h40
    refine gf_RX8_9 rfl hv0 (shape_ord hv0).1 h40.1 dX8_plans_13 ?_
    refine E_iconst (v := (1 : Int32)) rfl dX8_plans_16 ?_
    obtain ⟨h41, hF⟩ := gd_inv hF
    refine E_iald _ h40.2 (shape_ord h40.2).1 h41 dX8_plans_17 ?_
    refine E_icmp_ge (tgt := 170) rfl dX8_plans_18 (fun c42 => ?_) (fun c42 => ?_)
    · have hF := ite_t hF c42
      refine E_iconst (v := (0 : Int32)) rfl dX8_plans_170 ?_
      exact E_zret (ty := .boolean) (Or.inl rfl) rfl rfl (by cases hF; exact hr) dX8_plans_171
    · have hF := ite_f hF c42
      refine E_aload_n (j := 0) (i := 0) (q := 0) rfl rfl dX8_plans_21 ?_
      refine E_iload_n (j := 3) (i := 3) (q := 2) rfl rfl dX8_plans_22 ?_
      obtain ⟨q43, h44, hF⟩ := bd_inv hF
      refine E_callV (na := 1) (As := [.int v3]) (S := []) (kc := 0) (ks := 0) (ci := 10) rfl rfl hv0 (shape_ord hv0).1 cwV_RX8_146 ⟨by show 8 + 1 + 1 ≤ 8 + (5 + (d9 + 1)); omega, by show 8 + (2 + 11) + (200 + 60 * 1) ≤ 200 + 60 * (5 + (d9 + 1)); omega⟩ (T_X8_canMove hfl fl _ _ _ hv0 _ h44) rfl rfl rfl (Nat.le_of_ble_eq_true rfl) dX8_plans_23 ?_
      refine E_if_ne (tgt := 32) rfl dX8_plans_26 (fun c45 => ?_) (fun c45 => ?_)
      · have hF := ite_f hF c45
        refine E_aload_n (j := 0) (i := 0) (q := 0) rfl rfl dX8_plans_32 ?_
        obtain ⟨r46, h47, hF⟩ := bd_inv hF
        have h47 := ldA_inv h47
        refine gf_RX8_13 rfl hv0 (shape_ord hv0).1 h47.1 dX8_plans_33 ?_
        refine E_iload_n (j := 3) (i := 3) (q := 2) rfl rfl dX8_plans_36 ?_
        obtain ⟨h48, hF⟩ := gd_inv hF
        refine E_iald _ h47.2 (shape_ord h47.2).1 h48 dX8_plans_37 ?_
        refine E_istore (L' := [(4, .int (gI s r46.1 v3.toNatClampNeg)), (0, .ref v0), (2, .int v2), (3, .int v3)]) (Nat.le_of_ble_eq_true rfl) rfl dX8_plans_38 ?_
        refine E_iconst (v := (0 : Int32)) rfl dX8_plans_40 ?_
        refine E_istore (L' := [(5, .int (0 : Int32)), (4, .int (gI s r46.1 v3.toNatClampNeg)), (0, .ref v0), (2, .int v2), (3, .int v3)]) (Nat.le_of_ble_eq_true rfl) rfl dX8_plans_41 ?_
        refine E_sub [2, 3, 4, 1, 0] rfl ?_
        exact T_X8_plans_43 hfl hself fl hr ih fl _ _ _ _ _ _ hv0 hF
      · have hF := ite_t hF c45
        refine E_goto (tgt := 164) rfl dX8_plans_29 ?_
        refine E_sub [0, 1, 2] rfl ?_
        exact T_X8_plans_164 hfl hself fl hr ih _ _ _ _ hv0 hF
set_option maxHeartbeats 4000000 in
set_option maxRecDepth 100000 in
theorem T_X8_plans_0 {l : Launch} (hfl : l.stackTraces = false) {d9 : Nat} {self : Nat → Int32 → Int32 → Mem → Option (Int32 × Mem)} (hself : ∀ (v0 : Nat) (v1 v2 : Int32) (s : Mem) (hv0 : shape v0 = some (.inl 10)) (ρ : (Int32 × Mem)), self v0 v1 v2 s = some ρ → MetN l (X_X8_plans d9) false NF s [.ref v0, .int v1, .int v2] (.inr (some (.int ρ.1)), NF, ρ.2)) (fl : Nat) (v0 : Nat) (v1 : Int32) (v2 : Int32) (s : Mem) (hv0 : shape v0 = some (.inl 10)) (ρ : (Int32 × Mem)) (hF : G_X8_plans self fl v0 v1 v2 s = some ρ) : MetN l (X_X8_plans (d9 + 1)) false NF s [.ref v0, .int v1, .int v2] (.inr (some (.int ρ.1)), NF, ρ.2) := by
  unfold G_X8_plans at hF
  obtain ⟨r, hr⟩ : ∃ r : Rs, r = (.inr (some (.int ρ.1)), NF, ρ.2) := ⟨_, rfl⟩
  rw [← hr]
  refine met_of_E rfl rfl (by decide +kernel : plainName yX8_plans.cls = true) hfl rfl (Nat.le_of_ble_eq_true rfl) ?_
  show E l (X_X8_plans (d9 + 1)) r false NF s 0 0 0 [(0, .ref v0), (1, .int v1), (2, .int v2)] []
  refine E_iload_n (j := 2) (i := 2) (q := 2) rfl rfl dX8_plans_0 ?_
  refine E_if_ne (tgt := 9) rfl dX8_plans_1 (fun c49 => ?_) (fun c49 => ?_)
  · have hF := ite_f hF c49
    refine E_iload_n (j := 1) (i := 1) (q := 1) rfl rfl dX8_plans_9 ?_
    refine E_istore_n (j := 3) (i := 3) (L' := [(3, .int v1), (0, .ref v0), (1, .int v1), (2, .int v2)]) rfl (Nat.le_of_ble_eq_true rfl) rfl dX8_plans_10 ?_
    refine E_sub [1, 3, 0] rfl ?_
    exact T_X8_plans_11 hfl hself fl hr  fl _ _ _ _ hv0 hF
  · have hF := ite_t hF c49
    refine E_aload_n (j := 0) (i := 0) (q := 0) rfl rfl dX8_plans_4 ?_
    obtain ⟨q50, h51, hF⟩ := bd_inv hF
    refine E_callV (na := 0) (As := []) (S := []) (kc := 0) (ks := 0) (ci := 10) rfl rfl hv0 (shape_ord hv0).1 cwV_RX8_143 ⟨by show 8 + 4 + 1 ≤ 8 + (5 + (d9 + 1)); omega, by show 8 + (2 + 11) + (200 + 60 * 4) ≤ 200 + 60 * (5 + (d9 + 1)); omega⟩ (T_X8_isRight hfl fl _ _ hv0 _ h51) rfl rfl rfl (Nat.le_of_ble_eq_true rfl) dX8_plans_5 ?_
    obtain ⟨h52, hF⟩ := gd_inv hF
    exact E_zret (ty := .boolean) (Or.inl rfl) rfl (nar_b h52) (by cases hF; exact hr) dX8_plans_8
set_option maxHeartbeats 4000000 in
set_option maxRecDepth 100000 in
theorem T_X8_plans_d {l : Launch} (hfl : l.stackTraces = false) (fl : Nat) : ∀ (d9 : Nat) (v0 : Nat) (v1 v2 : Int32) (s : Mem) (hv0 : shape v0 = some (.inl 10)) (ρ : (Int32 × Mem)), F_X8_plans fl d9 v0 v1 v2 s = some ρ → MetN l (X_X8_plans d9) false NF s [.ref v0, .int v1, .int v2] (.inr (some (.int ρ.1)), NF, ρ.2) := by
  intro d9
  induction d9 with
  | zero =>
    intro v0 v1 v2 s hv0 ρ hF
    cases hF
  | succ d9 ih =>
    intro v0 v1 v2 s hv0 ρ hF
    exact T_X8_plans_0 hfl ih fl v0 v1 v2 s hv0 ρ hF
theorem T_X8_plans {l : Launch} (hfl : l.stackTraces = false) (fl : Nat) (v0 : Nat) (v1 v2 : Int32) (s : Mem) (hv0 : shape v0 = some (.inl 10)) (ρ : (Int32 × Mem)) (hF : F_X8_plans fl 4 v0 v1 v2 s = some ρ) : MetN l (X_X8_plans 4) false NF s [.ref v0, .int v1, .int v2] (.inr (some (.int ρ.1)), NF, ρ.2) := T_X8_plans_d hfl fl 4 v0 v1 v2 s hv0 ρ hF
set_option maxHeartbeats 4000000 in
set_option maxRecDepth 100000 in
theorem T_X8_fitting_129 {l : Launch} (hfl : l.stackTraces = false) (fl : Nat) {r : Rs} {ρ : (Int32 × Mem)} (hr : r = (.inr (some (.int ρ.1)), NF, ρ.2)) {k6 : Nat → Int32 → Int32 → Int32 → Int32 → Int32 → Mem → Option (Int32 × Mem)} (hk6 : ∀ (v0 : Nat) (v1 : Int32) (v2 : Int32) (v3 : Int32) (v4 : Int32) (v5 : Int32) (s : Mem) (hv0 : shape v0 = some (.inl 10)), k6 v0 v1 v2 v3 v4 v5 s = some ρ → E l X_X8_fitting r false NF s 0 0 6 [(0, .ref v0), (1, .int v1), (2, .int v2), (3, .int v3), (4, .int v4), (5, .int v5)] []) (v0 : Nat) (v1 : Int32) (v2 : Int32) (v3 : Int32) (v4 : Int32) (v5 : Int32) (s : Mem) (hv0 : shape v0 = some (.inl 10)) (hF : B_X8_fitting_129 k6 fl v0 v1 v2 v3 v4 v5 s = some ρ) : E l X_X8_fitting r false NF s 0 0 129 [(0, .ref v0), (1, .int v1), (2, .int v2), (3, .int v3), (4, .int v4), (5, .int v5)] [] := by
  unfold B_X8_fitting_129 at hF
  refine E_iinc (q := 5) (v := (v5 + (1 : Int32))) (L' := [(5, .int (v5 + (1 : Int32))), (0, .ref v0), (1, .int v1), (2, .int v2), (3, .int v3), (4, .int v4)]) rfl rfl (Nat.le_of_ble_eq_true rfl) rfl dX8_fitting_129 ?_
  refine E_goto (tgt := 6) rfl dX8_fitting_132 ?_
  refine E_sub [1, 2, 3, 4, 5, 0] rfl ?_
  exact hk6 _ _ _ _ _ _ _ hv0 hF
set_option maxHeartbeats 4000000 in
set_option maxRecDepth 100000 in
theorem T_X8_fitting_117 {l : Launch} (hfl : l.stackTraces = false) (fl : Nat) {r : Rs} {ρ : (Int32 × Mem)} (hr : r = (.inr (some (.int ρ.1)), NF, ρ.2)) {k6 : Nat → Int32 → Int32 → Int32 → Int32 → Int32 → Mem → Option (Int32 × Mem)} (hk6 : ∀ (v0 : Nat) (v1 : Int32) (v2 : Int32) (v3 : Int32) (v4 : Int32) (v5 : Int32) (s : Mem) (hv0 : shape v0 = some (.inl 10)), k6 v0 v1 v2 v3 v4 v5 s = some ρ → E l X_X8_fitting r false NF s 0 0 6 [(0, .ref v0), (1, .int v1), (2, .int v2), (3, .int v3), (4, .int v4), (5, .int v5)] []) (v0 : Nat) (v1 : Int32) (v2 : Int32) (v3 : Int32) (v4 : Int32) (v5 : Int32) (v6 : Int32) (s : Mem) (hv0 : shape v0 = some (.inl 10)) (hF : B_X8_fitting_117 k6 fl v0 v1 v2 v3 v4 v5 v6 s = some ρ) : E l X_X8_fitting r false NF s 0 0 117 [(0, .ref v0), (1, .int v1), (2, .int v2), (3, .int v3), (4, .int v4), (5, .int v5), (6, .int v6)] [] := by
  unfold B_X8_fitting_117 at hF
  refine E_aload_n (j := 0) (i := 0) (q := 0) rfl rfl dX8_fitting_117 ?_
  obtain ⟨r1, h2, hF⟩ := bd_inv hF
  have h2 := ldA_inv h2
  refine gf_RX8_28 rfl hv0 (shape_ord hv0).1 h2.1 dX8_fitting_118 ?_
  refine E_iload (q := 6) rfl dX8_fitting_121 ?_
  refine E_iload (q := 5) rfl dX8_fitting_123 ?_
  obtain ⟨h3, hF⟩ := gd_inv hF
  refine E_iast _ h2.2 (shape_ord h2.2).1 h3 dX8_fitting_125 ?_
  obtain ⟨m4, e5, hF⟩ := nx_inv hF
  refine E_mem e5 ?_
  refine E_iinc (q := 4) (v := (v4 + (1 : Int32))) (L' := [(4, .int (v4 + (1 : Int32))), (0, .ref v0), (1, .int v1), (2, .int v2), (3, .int v3), (5, .int v5), (6, .int v6)]) rfl rfl (Nat.le_of_ble_eq_true rfl) rfl dX8_fitting_126 ?_
  refine E_sub [1, 2, 3, 4, 0, 5] rfl ?_
  exact T_X8_fitting_129 hfl fl hr hk6 _ _ _ _ _ _ _ hv0 hF
set_option maxHeartbeats 4000000 in
set_option maxRecDepth 100000 in
theorem T_X8_fitting_43 {l : Launch} (hfl : l.stackTraces = false) (fl : Nat) {r : Rs} {ρ : (Int32 × Mem)} (hr : r = (.inr (some (.int ρ.1)), NF, ρ.2)) {k6 : Nat → Int32 → Int32 → Int32 → Int32 → Int32 → Mem → Option (Int32 × Mem)} (hk6 : ∀ (v0 : Nat) (v1 : Int32) (v2 : Int32) (v3 : Int32) (v4 : Int32) (v5 : Int32) (s : Mem) (hv0 : shape v0 = some (.inl 10)), k6 v0 v1 v2 v3 v4 v5 s = some ρ → E l X_X8_fitting r false NF s 0 0 6 [(0, .ref v0), (1, .int v1), (2, .int v2), (3, .int v3), (4, .int v4), (5, .int v5)] []) : ∀ (n : Nat) (v0 : Nat) (v1 : Int32) (v2 : Int32) (v3 : Int32) (v4 : Int32) (v5 : Int32) (v6 : Int32) (s : Mem) (hv0 : shape v0 = some (.inl 10)), B_X8_fitting_43 k6 fl n v0 v1 v2 v3 v4 v5 v6 s = some ρ → E l X_X8_fitting r false NF s 0 0 43 [(0, .ref v0), (1, .int v1), (2, .int v2), (3, .int v3), (4, .int v4), (5, .int v5), (6, .int v6)] [] := by
  intro n
  induction n with
  | zero =>
    intro v0 v1 v2 v3 v4 v5 v6 s hv0 hF
    cases hF
  | succ n ih =>
    intro v0 v1 v2 v3 v4 v5 v6 s hv0 hF
    refine E_iload (q := 6) rfl dX8_fitting_43 ?_
    refine E_if_le (tgt := 117) rfl dX8_fitting_45 (fun c6 => ?_) (fun c6 => ?_)
    · have hF := ite_t hF c6
      refine E_sub [0, 1, 2, 3, 4, 5, 6] rfl ?_
      exact T_X8_fitting_117 hfl fl hr hk6 _ _ _ _ _ _ _ _ hv0 hF
    · have hF := ite_f hF c6
      refine E_aload_n (j := 0) (i := 0) (q := 0) rfl rfl dX8_fitting_48 ?_
      refine E_aload_n (j := 0) (i := 0) (q := 0) rfl rfl dX8_fitting_49 ?_
      obtain ⟨r7, h8, hF⟩ := bd_inv hF
      have h8 := ldA_inv h8
      refine gf_RX8_28 rfl hv0 (shape_ord hv0).1 h8.1 dX8_fitting_50 ?_
      refine E_iload (q := 6) rfl dX8_fitting_53 ?_
      refine E_iconst (v := (1 : Int32)) rfl dX8_fitting_55 ?_
      refine E_isub dX8_fitting_56 ?_
      obtain ⟨h9, hF⟩ := gd_inv hF
      refine E_iald _ h8.2 (shape_ord h8.2).1 h9 dX8_fitting_57 ?_
      refine E_iconst (v := (1 : Int32)) rfl dX8_fitting_58 ?_
      obtain ⟨q10, h11, hF⟩ := bd_inv hF
      refine E_callV (na := 2) (As := [.int (gI s r7.1 (v6 - (1 : Int32)).toNatClampNeg), .int (1 : Int32)]) (S := []) (kc := 0) (ks := 0) (ci := 10) rfl rfl hv0 (shape_ord hv0).1 cwV_RX8_63 ⟨Nat.le_of_ble_eq_true rfl, Nat.le_of_ble_eq_true rfl⟩ (T_X8_ofPitch hfl fl _ _ _ _ hv0 _ h11) rfl rfl rfl (Nat.le_of_ble_eq_true rfl) dX8_fitting_59 ?_
      refine E_aload_n (j := 0) (i := 0) (q := 0) rfl rfl dX8_fitting_62 ?_
      refine E_aload_n (j := 0) (i := 0) (q := 0) rfl rfl dX8_fitting_63 ?_
      obtain ⟨r12, h13, hF⟩ := bd_inv hF
      have h13 := ldA_inv h13
      refine gf_RX8_28 rfl hv0 (shape_ord hv0).1 h13.1 dX8_fitting_64 ?_
      refine E_iload (q := 6) rfl dX8_fitting_67 ?_
      refine E_iconst (v := (1 : Int32)) rfl dX8_fitting_69 ?_
      refine E_isub dX8_fitting_70 ?_
      obtain ⟨h14, hF⟩ := gd_inv hF
      refine E_iald _ h13.2 (shape_ord h13.2).1 h14 dX8_fitting_71 ?_
      refine E_iconst (v := (2 : Int32)) rfl dX8_fitting_72 ?_
      obtain ⟨q15, h16, hF⟩ := bd_inv hF
      refine E_callV (na := 2) (As := [.int (gI s r12.1 (v6 - (1 : Int32)).toNatClampNeg), .int (2 : Int32)]) (S := [.int q10]) (kc := 0) (ks := 0) (ci := 10) rfl rfl hv0 (shape_ord hv0).1 cwV_RX8_63 ⟨Nat.le_of_ble_eq_true rfl, Nat.le_of_ble_eq_true rfl⟩ (T_X8_ofPitch hfl fl _ _ _ _ hv0 _ h16) rfl rfl rfl (Nat.le_of_ble_eq_true rfl) dX8_fitting_73 ?_
      refine E_imul dX8_fitting_76 ?_
      refine E_aload_n (j := 0) (i := 0) (q := 0) rfl rfl dX8_fitting_77 ?_
      refine E_iload (q := 5) rfl dX8_fitting_78 ?_
      refine E_iconst (v := (1 : Int32)) rfl dX8_fitting_80 ?_
      obtain ⟨q17, h18, hF⟩ := bd_inv hF
      refine E_callV (na := 2) (As := [.int v5, .int (1 : Int32)]) (S := [.int (q10 * q15)]) (kc := 0) (ks := 0) (ci := 10) rfl rfl hv0 (shape_ord hv0).1 cwV_RX8_63 ⟨Nat.le_of_ble_eq_true rfl, Nat.le_of_ble_eq_true rfl⟩ (T_X8_ofPitch hfl fl _ _ _ _ hv0 _ h18) rfl rfl rfl (Nat.le_of_ble_eq_true rfl) dX8_fitting_81 ?_
      refine E_aload_n (j := 0) (i := 0) (q := 0) rfl rfl dX8_fitting_84 ?_
      refine E_iload (q := 5) rfl dX8_fitting_85 ?_
      refine E_iconst (v := (2 : Int32)) rfl dX8_fitting_87 ?_
      obtain ⟨q19, h20, hF⟩ := bd_inv hF
      refine E_callV (na := 2) (As := [.int v5, .int (2 : Int32)]) (S := [.int q17, .int (q10 * q15)]) (kc := 0) (ks := 0) (ci := 10) rfl rfl hv0 (shape_ord hv0).1 cwV_RX8_63 ⟨Nat.le_of_ble_eq_true rfl, Nat.le_of_ble_eq_true rfl⟩ (T_X8_ofPitch hfl fl _ _ _ _ hv0 _ h20) rfl rfl rfl (Nat.le_of_ble_eq_true rfl) dX8_fitting_88 ?_
      refine E_imul dX8_fitting_91 ?_
      refine E_icmp_le (tgt := 117) rfl dX8_fitting_92 (fun c21 => ?_) (fun c21 => ?_)
      · have hF := ite_t hF c21
        refine E_sub [0, 1, 2, 3, 4, 5, 6] rfl ?_
        exact T_X8_fitting_117 hfl fl hr hk6 _ _ _ _ _ _ _ _ hv0 hF
      · have hF := ite_f hF c21
        refine E_aload_n (j := 0) (i := 0) (q := 0) rfl rfl dX8_fitting_95 ?_
        obtain ⟨r22, h23, hF⟩ := bd_inv hF
        have h23 := ldA_inv h23
        refine gf_RX8_28 rfl hv0 (shape_ord hv0).1 h23.1 dX8_fitting_96 ?_
        refine E_iload (q := 6) rfl dX8_fitting_99 ?_
        refine E_aload_n (j := 0) (i := 0) (q := 0) rfl rfl dX8_fitting_101 ?_
        obtain ⟨r24, h25, hF⟩ := bd_inv hF
        have h25 := ldA_inv h25
        refine gf_RX8_28 rfl hv0 (shape_ord hv0).1 h25.1 dX8_fitting_102 ?_
        refine E_iload (q := 6) rfl dX8_fitting_105 ?_
        refine E_iconst (v := (1 : Int32)) rfl dX8_fitting_107 ?_
        refine E_isub dX8_fitting_108 ?_
        obtain ⟨h26, hF⟩ := gd_inv hF
        refine E_iald _ h25.2 (shape_ord h25.2).1 h26 dX8_fitting_109 ?_
        obtain ⟨h27, hF⟩ := gd_inv hF
        refine E_iast _ h23.2 (shape_ord h23.2).1 h27 dX8_fitting_110 ?_
        obtain ⟨m28, e29, hF⟩ := nx_inv hF
        refine E_mem e29 ?_
        refine E_iinc (q := 6) (v := (v6 + (-1 : Int32))) (L' := [(6, .int (v6 + (-1 : Int32))), (0, .ref v0), (1, .int v1), (2, .int v2), (3, .int v3), (4, .int v4), (5, .int v5)]) rfl (congrArg (fun z => v6 + z) (by decide)) (Nat.le_of_ble_eq_true rfl) rfl dX8_fitting_111 ?_
        refine E_goto (tgt := 43) rfl dX8_fitting_114 ?_
        refine E_sub [1, 2, 3, 4, 5, 6, 0] rfl ?_
        exact ih _ _ _ _ _ _ _ _ hv0 hF
set_option maxHeartbeats 4000000 in
set_option maxRecDepth 100000 in
theorem T_X8_fitting_6 {l : Launch} (hfl : l.stackTraces = false) (fl : Nat) {r : Rs} {ρ : (Int32 × Mem)} (hr : r = (.inr (some (.int ρ.1)), NF, ρ.2)) : ∀ (n : Nat) (v0 : Nat) (v1 : Int32) (v2 : Int32) (v3 : Int32) (v4 : Int32) (v5 : Int32) (s : Mem) (hv0 : shape v0 = some (.inl 10)), B_X8_fitting_6 fl n v0 v1 v2 v3 v4 v5 s = some ρ → E l X_X8_fitting r false NF s 0 0 6 [(0, .ref v0), (1, .int v1), (2, .int v2), (3, .int v3), (4, .int v4), (5, .int v5)] [] := by
  intro n
  induction n with
  | zero =>
    intro v0 v1 v2 v3 v4 v5 s hv0 hF
    cases hF
  | succ n ih =>
    intro v0 v1 v2 v3 v4 v5 s hv0 hF
    refine E_iload (q := 5) rfl dX8_fitting_6 ?_
    refine E_aload_n (j := 0) (i := 0) (q := 0) rfl rfl dX8_fitting_8 ?_
    obtain ⟨r30, h31, hF⟩ := bd_inv hF
    have h31 := ldA_inv h31
    refine gf_RX8_9 rfl hv0 (shape_ord hv0).1 h31.1 dX8_fitting_9 ?_
    refine E_iconst (v := (0 : Int32)) rfl dX8_fitting_12 ?_
    obtain ⟨h32, hF⟩ := gd_inv hF
    refine E_iald _ h31.2 (shape_ord h31.2).1 h32 dX8_fitting_13 ?_
    refine E_icmp_ge (tgt := 135) rfl dX8_fitting_14 (fun c33 => ?_) (fun c33 => ?_)
    · have hF := ite_t hF c33
      refine E_iload (q := 4) rfl dX8_fitting_135 ?_
      exact E_iret (Or.inl rfl) rfl (by cases hF; exact hr) dX8_fitting_137
    · have hF := ite_f hF c33
      refine E_aload_n (j := 0) (i := 0) (q := 0) rfl rfl dX8_fitting_17 ?_
      refine E_iload_n (j := 1) (i := 1) (q := 1) rfl rfl dX8_fitting_18 ?_
      refine E_iload_n (j := 2) (i := 2) (q := 2) rfl rfl dX8_fitting_19 ?_
      refine E_iload_n (j := 3) (i := 3) (q := 3) rfl rfl dX8_fitting_20 ?_
      refine E_aload_n (j := 0) (i := 0) (q := 0) rfl rfl dX8_fitting_21 ?_
      obtain ⟨r34, h35, hF⟩ := bd_inv hF
      have h35 := ldA_inv h35
      refine gf_RX8_22 rfl hv0 (shape_ord hv0).1 h35.1 dX8_fitting_22 ?_
      refine E_bipush (v := (12 : Int32)) rfl dX8_fitting_25 ?_
      obtain ⟨h36, hF⟩ := gd_inv hF
      refine E_iald _ h35.2 (shape_ord h35.2).1 h36 dX8_fitting_27 ?_
      refine E_iload (q := 5) rfl dX8_fitting_28 ?_
      obtain ⟨q37, h38, hF⟩ := bd_inv hF
      refine E_callV (na := 5) (As := [.int v1, .int v2, .int v3, .int (gI s r34.1 (12 : Int32).toNatClampNeg), .int v5]) (S := []) (kc := 0) (ks := 0) (ci := 10) rfl rfl hv0 (shape_ord hv0).1 cwV_RX8_119 ⟨Nat.le_of_ble_eq_true rfl, Nat.le_of_ble_eq_true rfl⟩ (T_X8_fits hfl fl _ _ _ _ _ _ _ hv0 _ h38) rfl rfl rfl (Nat.le_of_ble_eq_true rfl) dX8_fitting_30 ?_
      refine E_if_ne (tgt := 39) rfl dX8_fitting_33 (fun c39 => ?_) (fun c39 => ?_)
      · have hF := ite_f hF c39
        refine E_iload (q := 4) rfl dX8_fitting_39 ?_
        refine E_istore (L' := [(6, .int v4), (0, .ref v0), (1, .int v1), (2, .int v2), (3, .int v3), (4, .int v4), (5, .int v5)]) (Nat.le_of_ble_eq_true rfl) rfl dX8_fitting_41 ?_
        refine E_sub [1, 2, 3, 4, 5, 6, 0] rfl ?_
        exact T_X8_fitting_43 hfl fl hr ih fl _ _ _ _ _ _ _ _ hv0 hF
      · have hF := ite_t hF c39
        refine E_goto (tgt := 129) rfl dX8_fitting_36 ?_
        refine E_sub [0, 1, 2, 3, 4, 5] rfl ?_
        exact T_X8_fitting_129 hfl fl hr ih _ _ _ _ _ _ _ hv0 hF
set_option maxHeartbeats 4000000 in
set_option maxRecDepth 100000 in
theorem T_X8_fitting {l : Launch} (hfl : l.stackTraces = false) (fl : Nat) (v0 : Nat) (v1 : Int32) (v2 : Int32) (v3 : Int32) (s : Mem) (hv0 : shape v0 = some (.inl 10)) (ρ : (Int32 × Mem)) (hF : F_X8_fitting fl v0 v1 v2 v3 s = some ρ) : MetN l X_X8_fitting false NF s [.ref v0, .int v1, .int v2, .int v3] (.inr (some (.int ρ.1)), NF, ρ.2) := by
  unfold F_X8_fitting at hF
  obtain ⟨r, hr⟩ : ∃ r : Rs, r = (.inr (some (.int ρ.1)), NF, ρ.2) := ⟨_, rfl⟩
  rw [← hr]
  refine met_of_E rfl rfl (by decide +kernel) hfl rfl (Nat.le_of_ble_eq_true rfl) ?_
  show E l X_X8_fitting r false NF s 0 0 0 [(0, .ref v0), (1, .int v1), (2, .int v2), (3, .int v3)] []
  refine E_iconst (v := (0 : Int32)) rfl dX8_fitting_0 ?_
  refine E_istore (L' := [(4, .int (0 : Int32)), (0, .ref v0), (1, .int v1), (2, .int v2), (3, .int v3)]) (Nat.le_of_ble_eq_true rfl) rfl dX8_fitting_1 ?_
  refine E_iconst (v := (0 : Int32)) rfl dX8_fitting_3 ?_
  refine E_istore (L' := [(5, .int (0 : Int32)), (4, .int (0 : Int32)), (0, .ref v0), (1, .int v1), (2, .int v2), (3, .int v3)]) (Nat.le_of_ble_eq_true rfl) rfl dX8_fitting_4 ?_
  refine E_sub [2, 3, 4, 5, 1, 0] rfl ?_
  exact T_X8_fitting_6 hfl fl hr  fl _ _ _ _ _ _ _ hv0 hF
set_option maxHeartbeats 4000000 in
set_option maxRecDepth 100000 in
theorem T_X8_finds_29 {l : Launch} (hfl : l.stackTraces = false) (fl : Nat) {r : Rs} {ρ : (Int32 × Mem)} (hr : r = (.inr (some (.int ρ.1)), NF, ρ.2)) {k20 : Nat → Int32 → Int32 → Mem → Option (Int32 × Mem)} (hk20 : ∀ (v0 : Nat) (v4 : Int32) (v5 : Int32) (s : Mem) (hv0 : shape v0 = some (.inl 10)), k20 v0 v4 v5 s = some ρ → E l X_X8_finds r false NF s 0 0 20 [(0, .ref v0), (4, .int v4), (5, .int v5)] []) : ∀ (n : Nat) (v0 : Nat) (v4 : Int32) (v5 : Int32) (v6 : Int32) (s : Mem) (hv0 : shape v0 = some (.inl 10)), B_X8_finds_29 k20 fl n v0 v4 v5 v6 s = some ρ → E l X_X8_finds r false NF s 0 0 29 [(0, .ref v0), (4, .int v4), (5, .int v5), (6, .int v6)] [] := by
  intro n
  induction n with
  | zero =>
    intro v0 v4 v5 v6 s hv0 hF
    cases hF
  | succ n ih =>
    intro v0 v4 v5 v6 s hv0 hF
    refine E_iload (q := 3) rfl dX8_finds_29 ?_
    refine E_iload (q := 1) rfl dX8_finds_31 ?_
    refine E_icmp_ge (tgt := 73) rfl dX8_finds_33 (fun c1 => ?_) (fun c1 => ?_)
    · have hF := ite_t hF c1
      refine E_iinc (q := 2) (v := (v5 + (1 : Int32))) (L' := [(5, .int (v5 + (1 : Int32))), (0, .ref v0), (4, .int v4), (6, .int v6)]) rfl rfl (Nat.le_of_ble_eq_true rfl) rfl dX8_finds_73 ?_
      refine E_goto (tgt := 20) rfl dX8_finds_76 ?_
      refine E_sub [1, 2, 0] rfl ?_
      exact hk20 _ _ _ _ hv0 hF
    · have hF := ite_f hF c1
      refine E_aload_n (j := 0) (i := 0) (q := 0) rfl rfl dX8_finds_36 ?_
      obtain ⟨r2, h3, hF⟩ := bd_inv hF
      have h3 := ldA_inv h3
      refine gf_RX8_13 rfl hv0 (shape_ord hv0).1 h3.1 dX8_finds_37 ?_
      refine E_bipush (v := (12 : Int32)) rfl dX8_finds_40 ?_
      refine E_aload_n (j := 0) (i := 0) (q := 0) rfl rfl dX8_finds_42 ?_
      obtain ⟨r4, h5, hF⟩ := bd_inv hF
      have h5 := ldA_inv h5
      refine gf_RX8_28 rfl hv0 (shape_ord hv0).1 h5.1 dX8_finds_43 ?_
      refine E_iload (q := 3) rfl dX8_finds_46 ?_
      obtain ⟨h6, hF⟩ := gd_inv hF
      refine E_iald _ h5.2 (shape_ord h5.2).1 h6 dX8_finds_48 ?_
      obtain ⟨h7, hF⟩ := gd_inv hF
      refine E_iast _ h3.2 (shape_ord h3.2).1 h7 dX8_finds_49 ?_
      obtain ⟨m8, e9, hF⟩ := nx_inv hF
      refine E_mem e9 ?_
      refine E_aload_n (j := 0) (i := 0) (q := 0) rfl rfl dX8_finds_50 ?_
      refine E_iconst (v := (0 : Int32)) rfl dX8_finds_51 ?_
      refine pf_RX8_137 rfl hv0 (shape_ord hv0).1 dX8_finds_52 ?_
      obtain ⟨m10, e11, hF⟩ := nx_inv hF
      refine E_mem e11 ?_
      refine E_aload_n (j := 0) (i := 0) (q := 0) rfl rfl dX8_finds_55 ?_
      refine E_iconst (v := (0 : Int32)) rfl dX8_finds_56 ?_
      refine E_iload (q := 2) rfl dX8_finds_57 ?_
      obtain ⟨q12, h13, hF⟩ := bd_inv hF
      refine E_callV (na := 2) (As := [.int (0 : Int32), .int v5]) (S := []) (kc := 0) (ks := 0) (ci := 10) rfl rfl hv0 (shape_ord hv0).1 (cwV_RX8_149_d 4) ⟨Nat.le_of_ble_eq_true rfl, Nat.le_of_ble_eq_true rfl⟩ (T_X8_plans hfl fl _ _ _ _ hv0 _ h13) rfl rfl rfl (Nat.le_of_ble_eq_true rfl) dX8_finds_59 ?_
      refine E_if_eq (tgt := 67) rfl dX8_finds_62 (fun c14 => ?_) (fun c14 => ?_)
      · have hF := ite_t hF c14
        refine E_iinc (q := 3) (v := (v6 + (1 : Int32))) (L' := [(6, .int (v6 + (1 : Int32))), (0, .ref v0), (4, .int v4), (5, .int v5)]) rfl rfl (Nat.le_of_ble_eq_true rfl) rfl dX8_finds_67 ?_
        refine E_goto (tgt := 29) rfl dX8_finds_70 ?_
        refine E_sub [1, 2, 3, 0] rfl ?_
        exact ih _ _ _ _ _ hv0 hF
      · have hF := ite_f hF c14
        refine E_iconst (v := (1 : Int32)) rfl dX8_finds_65 ?_
        exact E_zret (ty := .boolean) (Or.inl rfl) rfl rfl (by cases hF; exact hr) dX8_finds_66
set_option maxHeartbeats 4000000 in
set_option maxRecDepth 100000 in
theorem T_X8_finds_20 {l : Launch} (hfl : l.stackTraces = false) (fl : Nat) {r : Rs} {ρ : (Int32 × Mem)} (hr : r = (.inr (some (.int ρ.1)), NF, ρ.2)) : ∀ (n : Nat) (v0 : Nat) (v4 : Int32) (v5 : Int32) (s : Mem) (hv0 : shape v0 = some (.inl 10)), B_X8_finds_20 fl n v0 v4 v5 s = some ρ → E l X_X8_finds r false NF s 0 0 20 [(0, .ref v0), (4, .int v4), (5, .int v5)] [] := by
  intro n
  induction n with
  | zero =>
    intro v0 v4 v5 s hv0 hF
    cases hF
  | succ n ih =>
    intro v0 v4 v5 s hv0 hF
    refine E_iload (q := 2) rfl dX8_finds_20 ?_
    refine E_iconst (v := (3 : Int32)) rfl dX8_finds_22 ?_
    refine E_icmp_ge (tgt := 79) rfl dX8_finds_23 (fun c15 => ?_) (fun c15 => ?_)
    · have hF := ite_t hF c15
      refine E_aload_n (j := 0) (i := 0) (q := 0) rfl rfl dX8_finds_79 ?_
      obtain ⟨r16, h17, hF⟩ := bd_inv hF
      have h17 := ldA_inv h17
      refine gf_RX8_13 rfl hv0 (shape_ord hv0).1 h17.1 dX8_finds_80 ?_
      refine E_bipush (v := (12 : Int32)) rfl dX8_finds_83 ?_
      refine E_iconst (v := (-1 : Int32)) rfl dX8_finds_85 ?_
      obtain ⟨h18, hF⟩ := gd_inv hF
      refine E_iast _ h17.2 (shape_ord h17.2).1 h18 dX8_finds_86 ?_
      obtain ⟨m19, e20, hF⟩ := nx_inv hF
      refine E_mem e20 ?_
      refine E_iconst (v := (0 : Int32)) rfl dX8_finds_87 ?_
      exact E_zret (ty := .boolean) (Or.inl rfl) rfl rfl (by cases hF; exact hr) dX8_finds_88
    · have hF := ite_f hF c15
      refine E_iconst (v := (0 : Int32)) rfl dX8_finds_26 ?_
      refine E_istore (L' := [(6, .int (0 : Int32)), (0, .ref v0), (4, .int v4), (5, .int v5)]) (Nat.le_of_ble_eq_true rfl) rfl dX8_finds_27 ?_
      refine E_sub [1, 2, 3, 0] rfl ?_
      exact T_X8_finds_29 hfl fl hr ih fl _ _ _ _ _ hv0 hF
set_option maxHeartbeats 4000000 in
set_option maxRecDepth 100000 in
theorem T_X8_finds {l : Launch} (hfl : l.stackTraces = false) (fl : Nat) (v0 : Nat) (v1 : Int32) (v2 : Int32) (v3 : Int32) (s : Mem) (hv0 : shape v0 = some (.inl 10)) (ρ : (Int32 × Mem)) (hF : F_X8_finds fl v0 v1 v2 v3 s = some ρ) : MetN l X_X8_finds false NF s [.ref v0, .int v1, .int v2, .int v3] (.inr (some (.int ρ.1)), NF, ρ.2) := by
  unfold F_X8_finds at hF
  obtain ⟨r, hr⟩ : ∃ r : Rs, r = (.inr (some (.int ρ.1)), NF, ρ.2) := ⟨_, rfl⟩
  rw [← hr]
  refine met_of_E rfl rfl (by decide +kernel) hfl rfl (Nat.le_of_ble_eq_true rfl) ?_
  show E l X_X8_finds r false NF s 0 0 0 [(0, .ref v0), (1, .int v1), (2, .int v2), (3, .int v3)] []
  refine E_aload_n (j := 0) (i := 0) (q := 0) rfl rfl dX8_finds_0 ?_
  refine E_aload_n (j := 0) (i := 0) (q := 0) rfl rfl dX8_finds_1 ?_
  obtain ⟨q21, h22, hF⟩ := bd_inv hF
  refine E_callV (na := 0) (As := []) (S := [.ref v0]) (kc := 0) (ks := 0) (ci := 10) rfl rfl hv0 (shape_ord hv0).1 cwV_RX8_123 ⟨Nat.le_of_ble_eq_true rfl, Nat.le_of_ble_eq_true rfl⟩ (T_X8_gapsOfAll hfl fl _ _ hv0 _ h22) rfl rfl rfl (Nat.le_of_ble_eq_true rfl) dX8_finds_2 ?_
  refine pf_RX8_140 rfl hv0 (shape_ord hv0).1 dX8_finds_5 ?_
  obtain ⟨m23, e24, hF⟩ := nx_inv hF
  refine E_mem e24 ?_
  refine E_aload_n (j := 0) (i := 0) (q := 0) rfl rfl dX8_finds_8 ?_
  refine E_iload_n (j := 1) (i := 1) (q := 1) rfl rfl dX8_finds_9 ?_
  refine E_iload_n (j := 2) (i := 2) (q := 2) rfl rfl dX8_finds_10 ?_
  refine E_iload_n (j := 3) (i := 3) (q := 3) rfl rfl dX8_finds_11 ?_
  obtain ⟨q25, h26, hF⟩ := bd_inv hF
  refine E_callV (na := 3) (As := [.int v1, .int v2, .int v3]) (S := []) (kc := 0) (ks := 0) (ci := 10) rfl rfl hv0 (shape_ord hv0).1 cwV_RX8_153 ⟨Nat.le_of_ble_eq_true rfl, Nat.le_of_ble_eq_true rfl⟩ (T_X8_fitting hfl fl _ _ _ _ _ hv0 _ h26) rfl rfl rfl (Nat.le_of_ble_eq_true rfl) dX8_finds_12 ?_
  refine E_istore (L' := [(4, .int q25.1), (0, .ref v0), (1, .int v1), (2, .int v2), (3, .int v3)]) (Nat.le_of_ble_eq_true rfl) rfl dX8_finds_15 ?_
  refine E_iconst (v := (0 : Int32)) rfl dX8_finds_17 ?_
  refine E_istore (L' := [(5, .int (0 : Int32)), (4, .int q25.1), (0, .ref v0), (1, .int v1), (2, .int v2), (3, .int v3)]) (Nat.le_of_ble_eq_true rfl) rfl dX8_finds_18 ?_
  refine E_sub [2, 1, 0] rfl ?_
  exact T_X8_finds_20 hfl fl hr  fl _ _ _ _ hv0 hF
