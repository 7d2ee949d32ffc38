set_option maxHeartbeats 8000000 in
set_option maxRecDepth 100000 in
theorem T_X4_init {l : Launch} (hfl : l.stackTraces = false) (n : Nat) (σ : Mem) (A : Nat) : MetN l X_X4_init true n σ [.ref A] (.inr none, n, σ) := by
  refine met_of_E rfl rfl (by decide +kernel) hfl rfl (Nat.le_of_ble_eq_true rfl) ?_
  show E l X_X4_init _ true n σ 0 0 0 [(0, .ref A)] []
  refine E_aload_n (j := 0) (i := 0) (q := 0) rfl rfl dX4_init_0 ?_
  refine E_objInit wC0 wC1 wC2 ⟨Nat.le_of_ble_eq_true rfl, Nat.le_of_ble_eq_true rfl⟩ (Nat.le_of_ble_eq_true rfl) dX4_init_1 ?_
  exact E_vret (Or.inl rfl) rfl rfl dX4_init_4
set_option maxHeartbeats 8000000 in
set_option maxRecDepth 100000 in
theorem T_X3_init {l : Launch} (hfl : l.stackTraces = false) (n : Nat) (σ : Mem) (A : Nat) : MetN l X_X3_init true n σ [.ref A] (.inr none, n, σ) := by
  refine met_of_E rfl rfl (by decide +kernel) hfl rfl (Nat.le_of_ble_eq_true rfl) ?_
  show E l X_X3_init _ true n σ 0 0 0 [(0, .ref A)] []
  refine E_aload_n (j := 0) (i := 0) (q := 0) rfl rfl dX3_init_0 ?_
  refine E_objInit wC3 wC1 wC2 ⟨Nat.le_of_ble_eq_true rfl, Nat.le_of_ble_eq_true rfl⟩ (Nat.le_of_ble_eq_true rfl) dX3_init_1 ?_
  exact E_vret (Or.inl rfl) rfl rfl dX3_init_4
set_option maxHeartbeats 8000000 in
set_option maxRecDepth 100000 in
theorem T_X6_init {l : Launch} (hfl : l.stackTraces = false) (n : Nat) (σ : Mem) (A : Nat) : MetN l X_X6_init true n σ [.ref A] (.inr none, n, σ) := by
  refine met_of_E rfl rfl (by decide +kernel) hfl rfl (Nat.le_of_ble_eq_true rfl) ?_
  show E l X_X6_init _ true n σ 0 0 0 [(0, .ref A)] []
  refine E_aload_n (j := 0) (i := 0) (q := 0) rfl rfl dX6_init_0 ?_
  refine E_objInit wC4 wC1 wC2 ⟨Nat.le_of_ble_eq_true rfl, Nat.le_of_ble_eq_true rfl⟩ (Nat.le_of_ble_eq_true rfl) dX6_init_1 ?_
  exact E_vret (Or.inl rfl) rfl rfl dX6_init_4
def X1_mem (A : Nat) (σ : Mem) : Mem := (pI (pI (pI (pI (pR (pR (pR (pR (pR (pR (pR (pR (pR (pR (pR (pR (pR (pR (pR (pR (pR (pR (pR (pR (pR (pR (pR (pR (pR (pR σ A 0 (some (A + 1))) (A + 1) 0 (some (A + 2))) (A + 1) 1 (some (A + 3))) (A + 1) 2 (some (A + 4))) (A + 1) 3 (some (A + 5))) (A + 1) 4 (some (A + 6))) (A + 1) 5 (some (A + 7))) A 2 (some (A + 8))) (A + 8) 0 (some (A + 9))) (A + 8) 1 (some (A + 10))) (A + 8) 2 (some (A + 11))) (A + 8) 3 (some (A + 12))) (A + 8) 4 (some (A + 13))) (A + 8) 5 (some (A + 14))) (A + 8) 6 (some (A + 15))) (A + 8) 7 (some (A + 16))) (A + 8) 8 (some (A + 17))) (A + 8) 9 (some (A + 18))) (A + 8) 10 (some (A + 19))) (A + 8) 11 (some (A + 20))) A 4 (some (A + 21))) (A + 21) 0 (some (A + 22))) (A + 21) 1 (some (A + 23))) (A + 21) 2 (some (A + 24))) (A + 21) 3 (some (A + 25))) A 6 (some (A + 26))) (A + 26) 0 (16 : Int32)) (A + 26) 1 (16 : Int32)) (A + 26) 2 (16 : Int32)) A 7 (1 : Int32))
theorem gR_X1 {A k j : Nat} {σ : Mem} (h : k < A ∨ A + 27 ≤ k) : gR (X1_mem A σ) k j = gR σ k j := by
  unfold X1_mem
  simp only [gR_I, gR_R]
  repeat (rw [if_neg (by omega)])
set_option maxHeartbeats 8000000 in
set_option maxRecDepth 100000 in
theorem T_X1_init {l : Launch} (hfl : l.stackTraces = false) (A m : Nat) (σ : Mem) (hA : ∀ o, o < 27 → shape (A + o) = campSh o ∧ ordK (A + o) = m + o ∧ idK (m + o) = A + o) (hZ : Zf (m + 1) σ) : MetN l X_X1_init true (m + 1) σ [.ref A] (.inr none, m + 27, X1_mem A σ) := by
  have s0 : shape A = some (.inl 3) := (hA 0 (by decide)).1
  have o0 : ordK A = (m + 0) := (hA 0 (by decide)).2.1
  have i0 : idK (m + 0) = A := (hA 0 (by decide)).2.2
  have s1 : shape (A + 1) = some (.inr (4, 6)) := (hA 1 (by decide)).1
  have o1 : ordK (A + 1) = (m + 1) := (hA 1 (by decide)).2.1
  have i1 : idK (m + 1) = (A + 1) := (hA 1 (by decide)).2.2
  have s2 : shape (A + 2) = some (.inl 6) := (hA 2 (by decide)).1
  have o2 : ordK (A + 2) = (m + 2) := (hA 2 (by decide)).2.1
  have i2 : idK (m + 2) = (A + 2) := (hA 2 (by decide)).2.2
  have s3 : shape (A + 3) = some (.inl 6) := (hA 3 (by decide)).1
  have o3 : ordK (A + 3) = (m + 3) := (hA 3 (by decide)).2.1
  have i3 : idK (m + 3) = (A + 3) := (hA 3 (by decide)).2.2
  have s4 : shape (A + 4) = some (.inl 6) := (hA 4 (by decide)).1
  have o4 : ordK (A + 4) = (m + 4) := (hA 4 (by decide)).2.1
  have i4 : idK (m + 4) = (A + 4) := (hA 4 (by decide)).2.2
  have s5 : shape (A + 5) = some (.inl 6) := (hA 5 (by decide)).1
  have o5 : ordK (A + 5) = (m + 5) := (hA 5 (by decide)).2.1
  have i5 : idK (m + 5) = (A + 5) := (hA 5 (by decide)).2.2
  have s6 : shape (A + 6) = some (.inl 6) := (hA 6 (by decide)).1
  have o6 : ordK (A + 6) = (m + 6) := (hA 6 (by decide)).2.1
  have i6 : idK (m + 6) = (A + 6) := (hA 6 (by decide)).2.2
  have s7 : shape (A + 7) = some (.inl 6) := (hA 7 (by decide)).1
  have o7 : ordK (A + 7) = (m + 7) := (hA 7 (by decide)).2.1
  have i7 : idK (m + 7) = (A + 7) := (hA 7 (by decide)).2.2
  have s8 : shape (A + 8) = some (.inr (5, 12)) := (hA 8 (by decide)).1
  have o8 : ordK (A + 8) = (m + 8) := (hA 8 (by decide)).2.1
  have i8 : idK (m + 8) = (A + 8) := (hA 8 (by decide)).2.2
  have s9 : shape (A + 9) = some (.inl 5) := (hA 9 (by decide)).1
  have o9 : ordK (A + 9) = (m + 9) := (hA 9 (by decide)).2.1
  have i9 : idK (m + 9) = (A + 9) := (hA 9 (by decide)).2.2
  have s10 : shape (A + 10) = some (.inl 5) := (hA 10 (by decide)).1
  have o10 : ordK (A + 10) = (m + 10) := (hA 10 (by decide)).2.1
  have i10 : idK (m + 10) = (A + 10) := (hA 10 (by decide)).2.2
  have s11 : shape (A + 11) = some (.inl 5) := (hA 11 (by decide)).1
  have o11 : ordK (A + 11) = (m + 11) := (hA 11 (by decide)).2.1
  have i11 : idK (m + 11) = (A + 11) := (hA 11 (by decide)).2.2
  have s12 : shape (A + 12) = some (.inl 5) := (hA 12 (by decide)).1
  have o12 : ordK (A + 12) = (m + 12) := (hA 12 (by decide)).2.1
  have i12 : idK (m + 12) = (A + 12) := (hA 12 (by decide)).2.2
  have s13 : shape (A + 13) = some (.inl 5) := (hA 13 (by decide)).1
  have o13 : ordK (A + 13) = (m + 13) := (hA 13 (by decide)).2.1
  have i13 : idK (m + 13) = (A + 13) := (hA 13 (by decide)).2.2
  have s14 : shape (A + 14) = some (.inl 5) := (hA 14 (by decide)).1
  have o14 : ordK (A + 14) = (m + 14) := (hA 14 (by decide)).2.1
  have i14 : idK (m + 14) = (A + 14) := (hA 14 (by decide)).2.2
  have s15 : shape (A + 15) = some (.inl 5) := (hA 15 (by decide)).1
  have o15 : ordK (A + 15) = (m + 15) := (hA 15 (by decide)).2.1
  have i15 : idK (m + 15) = (A + 15) := (hA 15 (by decide)).2.2
  have s16 : shape (A + 16) = some (.inl 5) := (hA 16 (by decide)).1
  have o16 : ordK (A + 16) = (m + 16) := (hA 16 (by decide)).2.1
  have i16 : idK (m + 16) = (A + 16) := (hA 16 (by decide)).2.2
  have s17 : shape (A + 17) = some (.inl 5) := (hA 17 (by decide)).1
  have o17 : ordK (A + 17) = (m + 17) := (hA 17 (by decide)).2.1
  have i17 : idK (m + 17) = (A + 17) := (hA 17 (by decide)).2.2
  have s18 : shape (A + 18) = some (.inl 5) := (hA 18 (by decide)).1
  have o18 : ordK (A + 18) = (m + 18) := (hA 18 (by decide)).2.1
  have i18 : idK (m + 18) = (A + 18) := (hA 18 (by decide)).2.2
  have s19 : shape (A + 19) = some (.inl 5) := (hA 19 (by decide)).1
  have o19 : ordK (A + 19) = (m + 19) := (hA 19 (by decide)).2.1
  have i19 : idK (m + 19) = (A + 19) := (hA 19 (by decide)).2.2
  have s20 : shape (A + 20) = some (.inl 5) := (hA 20 (by decide)).1
  have o20 : ordK (A + 20) = (m + 20) := (hA 20 (by decide)).2.1
  have i20 : idK (m + 20) = (A + 20) := (hA 20 (by decide)).2.2
  have s21 : shape (A + 21) = some (.inr (6, 4)) := (hA 21 (by decide)).1
  have o21 : ordK (A + 21) = (m + 21) := (hA 21 (by decide)).2.1
  have i21 : idK (m + 21) = (A + 21) := (hA 21 (by decide)).2.2
  have s22 : shape (A + 22) = some (.inl 8) := (hA 22 (by decide)).1
  have o22 : ordK (A + 22) = (m + 22) := (hA 22 (by decide)).2.1
  have i22 : idK (m + 22) = (A + 22) := (hA 22 (by decide)).2.2
  have s23 : shape (A + 23) = some (.inl 8) := (hA 23 (by decide)).1
  have o23 : ordK (A + 23) = (m + 23) := (hA 23 (by decide)).2.1
  have i23 : idK (m + 23) = (A + 23) := (hA 23 (by decide)).2.2
  have s24 : shape (A + 24) = some (.inl 8) := (hA 24 (by decide)).1
  have o24 : ordK (A + 24) = (m + 24) := (hA 24 (by decide)).2.1
  have i24 : idK (m + 24) = (A + 24) := (hA 24 (by decide)).2.2
  have s25 : shape (A + 25) = some (.inl 8) := (hA 25 (by decide)).1
  have o25 : ordK (A + 25) = (m + 25) := (hA 25 (by decide)).2.1
  have i25 : idK (m + 25) = (A + 25) := (hA 25 (by decide)).2.2
  have s26 : shape (A + 26) = some (.inr (0, 3)) := (hA 26 (by decide)).1
  have o26 : ordK (A + 26) = (m + 26) := (hA 26 (by decide)).2.1
  have i26 : idK (m + 26) = (A + 26) := (hA 26 (by decide)).2.2
  refine met_of_E rfl rfl (by decide +kernel) hfl rfl (Nat.le_of_ble_eq_true rfl) ?_
  show E l X_X1_init _ true (m + 1) σ 26 199 0 [(0, .ref A)] []
  refine E_aload_n (j := 0) (i := 0) (q := 0) rfl rfl dX1_init_0 ?_
  refine E_objInit wC5 wC1 wC2 ⟨Nat.le_of_ble_eq_true rfl, Nat.le_of_ble_eq_true rfl⟩ (Nat.le_of_ble_eq_true rfl) dX1_init_1 ?_
  refine E_aload_n (j := 0) (i := 0) (q := 0) rfl rfl dX1_init_4 ?_
  refine E_bipush (v := (6 : Int32)) (by decide) dX1_init_5 ?_
  refine E_newq (kc := 25) (ks := 193) (kk := (A + 1)) (t := 4) (N := 6) (C := RX4) (Or.inl ⟨rfl, rfl⟩) wC6 (by decide +kernel) (by decide) (by decide) (by decide) rfl i1 o1 s1 (fun j => (Zf_at hZ s1 (by rw [o1]; exact Nat.le_refl _) j).2.2.1) dX1_init_7 ?_
  have hZ := Zf_up hZ
  rw [show (m + 1) + 1 = (m + 2) from rfl] at hZ
  show E l X_X1_init _ true (m + 2) _ _ _ _ _ _
  refine pR_RX1_11 rfl rfl s0 (by rw [o0]; omega) dX1_init_10 ?_
  have hZ := Zf_R (k := A) (j := 0) (v := some (A + 1)) (by rw [o0]; omega) hZ
  refine E_iconst (v := (0 : Int32)) (by decide) dX1_init_13 ?_
  refine E_istore_n (j := 1) (i := 1) (L' := [(1, .int (0 : Int32)), (0, .ref A)]) rfl (Nat.le_of_ble_eq_true rfl) rfl dX1_init_14 ?_
  refine E_iload_n (j := 1) (i := 1) (q := 0) rfl rfl dX1_init_15 ?_
  refine E_aload_n (j := 0) (i := 0) (q := 1) rfl rfl dX1_init_16 ?_
  refine gf_RX1_11 (v := (A + 1)) rfl s0 (by rw [o0]; omega) (by simp [gR_I, gR_R]) dX1_init_17 ?_
  refine E_alen _ (Nat.le_of_ble_eq_true rfl) s1 (by rw [o1]; omega) dX1_init_20 ?_
  refine E_icmp_ge (tgt := 43) rfl dX1_init_21 (fun h9 => absurd h9 (by decide)) (fun _ => ?_)
  refine E_aload_n (j := 0) (i := 0) (q := 1) rfl rfl dX1_init_24 ?_
  refine gf_RX1_11 (v := (A + 1)) rfl s0 (by rw [o0]; omega) (by simp [gR_I, gR_R]) dX1_init_25 ?_
  refine E_iload_n (j := 1) (i := 1) (q := 0) rfl rfl dX1_init_28 ?_
  refine E_newZ (kc := 24) (ks := 188) (kk := (A + 2)) (ci := 6) (N := 5) tyX4 rfl rfl win_X4 tyX4_ok hft_X4 wC6 wC7 wT35 rfl i2 o2 s2 (Zf_at hZ s2 (by rw [o2]; exact Nat.le_refl _)) dX1_init_29 ?_
  have hZ := Zf_up hZ
  rw [show (m + 2) + 1 = (m + 3) from rfl] at hZ
  show E l X_X1_init _ true (m + 3) _ _ _ _ _ _
  refine E_dup rfl dX1_init_32 ?_
  refine E_callIN (kc := 24) (ks := 188) (na := 0) (As := []) (S := [.ref (A + 2), .int (0 : Int32), .ref (A + 1)]) (bk := (A + 2)) cwI_RX1_17 ⟨Nat.le_of_ble_eq_true rfl, Nat.le_of_ble_eq_true rfl⟩ (T_X4_init hfl _ _ (A + 2)) rfl rfl rfl (Nat.le_of_ble_eq_true rfl) dX1_init_33 ?_
  refine E_aast (ci := 6) _ rfl (Or.inl ⟨rfl, rfl⟩) s1 (by rw [o1]; omega) s2 (by rw [o2]; omega) (by decide : inR (0 : Int32) 6) dX1_init_36 ?_
  have hZ := Zf_R (k := (A + 1)) (j := 0) (v := some (A + 2)) (by rw [o1]; omega) hZ
  rw [(by decide : Int32.toNatClampNeg (0 : Int32) = 0)]
  refine E_iinc (q := 0) (v := (1 : Int32)) (L' := [(1, .int (1 : Int32)), (0, .ref A)]) rfl (by decide) (Nat.le_of_ble_eq_true rfl) rfl dX1_init_37 ?_
  refine E_goto (tgt := 15) rfl dX1_init_40 ?_
  refine E_iload_n (j := 1) (i := 1) (q := 0) rfl rfl dX1_init_15 ?_
  refine E_aload_n (j := 0) (i := 0) (q := 1) rfl rfl dX1_init_16 ?_
  refine gf_RX1_11 (v := (A + 1)) rfl s0 (by rw [o0]; omega) (by simp [gR_I, gR_R]) dX1_init_17 ?_
  refine E_alen _ (Nat.le_of_ble_eq_true rfl) s1 (by rw [o1]; omega) dX1_init_20 ?_
  refine E_icmp_ge (tgt := 43) rfl dX1_init_21 (fun h9 => absurd h9 (by decide)) (fun _ => ?_)
  refine E_aload_n (j := 0) (i := 0) (q := 1) rfl rfl dX1_init_24 ?_
  refine gf_RX1_11 (v := (A + 1)) rfl s0 (by rw [o0]; omega) (by simp [gR_I, gR_R]) dX1_init_25 ?_
  refine E_iload_n (j := 1) (i := 1) (q := 0) rfl rfl dX1_init_28 ?_
  refine E_newZ (kc := 23) (ks := 183) (kk := (A + 3)) (ci := 6) (N := 5) tyX4 rfl rfl win_X4 tyX4_ok hft_X4 wC6 wC7 wT35 rfl i3 o3 s3 (Zf_at hZ s3 (by rw [o3]; exact Nat.le_refl _)) dX1_init_29 ?_
  have hZ := Zf_up hZ
  rw [show (m + 3) + 1 = (m + 4) from rfl] at hZ
  show E l X_X1_init _ true (m + 4) _ _ _ _ _ _
  refine E_dup rfl dX1_init_32 ?_
  refine E_callIN (kc := 23) (ks := 183) (na := 0) (As := []) (S := [.ref (A + 3), .int (1 : Int32), .ref (A + 1)]) (bk := (A + 3)) cwI_RX1_17 ⟨Nat.le_of_ble_eq_true rfl, Nat.le_of_ble_eq_true rfl⟩ (T_X4_init hfl _ _ (A + 3)) rfl rfl rfl (Nat.le_of_ble_eq_true rfl) dX1_init_33 ?_
  refine E_aast (ci := 6) _ rfl (Or.inl ⟨rfl, rfl⟩) s1 (by rw [o1]; omega) s3 (by rw [o3]; omega) (by decide : inR (1 : Int32) 6) dX1_init_36 ?_
  have hZ := Zf_R (k := (A + 1)) (j := 1) (v := some (A + 3)) (by rw [o1]; omega) hZ
  rw [(by decide : Int32.toNatClampNeg (1 : Int32) = 1)]
  refine E_iinc (q := 0) (v := (2 : Int32)) (L' := [(1, .int (2 : Int32)), (0, .ref A)]) rfl (by decide) (Nat.le_of_ble_eq_true rfl) rfl dX1_init_37 ?_
  refine E_goto (tgt := 15) rfl dX1_init_40 ?_
  refine E_iload_n (j := 1) (i := 1) (q := 0) rfl rfl dX1_init_15 ?_
  refine E_aload_n (j := 0) (i := 0) (q := 1) rfl rfl dX1_init_16 ?_
  refine gf_RX1_11 (v := (A + 1)) rfl s0 (by rw [o0]; omega) (by simp [gR_I, gR_R]) dX1_init_17 ?_
  refine E_alen _ (Nat.le_of_ble_eq_true rfl) s1 (by rw [o1]; omega) dX1_init_20 ?_
  refine E_icmp_ge (tgt := 43) rfl dX1_init_21 (fun h9 => absurd h9 (by decide)) (fun _ => ?_)
  refine E_aload_n (j := 0) (i := 0) (q := 1) rfl rfl dX1_init_24 ?_
  refine gf_RX1_11 (v := (A + 1)) rfl s0 (by rw [o0]; omega) (by simp [gR_I, gR_R]) dX1_init_25 ?_
  refine E_iload_n (j := 1) (i := 1) (q := 0) rfl rfl dX1_init_28 ?_
  refine E_newZ (kc := 22) (ks := 178) (kk := (A + 4)) (ci := 6) (N := 5) tyX4 rfl rfl win_X4 tyX4_ok hft_X4 wC6 wC7 wT35 rfl i4 o4 s4 (Zf_at hZ s4 (by rw [o4]; exact Nat.le_refl _)) dX1_init_29 ?_
  have hZ := Zf_up hZ
  rw [show (m + 4) + 1 = (m + 5) from rfl] at hZ
  show E l X_X1_init _ true (m + 5) _ _ _ _ _ _
  refine E_dup rfl dX1_init_32 ?_
  refine E_callIN (kc := 22) (ks := 178) (na := 0) (As := []) (S := [.ref (A + 4), .int (2 : Int32), .ref (A + 1)]) (bk := (A + 4)) cwI_RX1_17 ⟨Nat.le_of_ble_eq_true rfl, Nat.le_of_ble_eq_true rfl⟩ (T_X4_init hfl _ _ (A + 4)) rfl rfl rfl (Nat.le_of_ble_eq_true rfl) dX1_init_33 ?_
  refine E_aast (ci := 6) _ rfl (Or.inl ⟨rfl, rfl⟩) s1 (by rw [o1]; omega) s4 (by rw [o4]; omega) (by decide : inR (2 : Int32) 6) dX1_init_36 ?_
  have hZ := Zf_R (k := (A + 1)) (j := 2) (v := some (A + 4)) (by rw [o1]; omega) hZ
  rw [(by decide : Int32.toNatClampNeg (2 : Int32) = 2)]
  refine E_iinc (q := 0) (v := (3 : Int32)) (L' := [(1, .int (3 : Int32)), (0, .ref A)]) rfl (by decide) (Nat.le_of_ble_eq_true rfl) rfl dX1_init_37 ?_
  refine E_goto (tgt := 15) rfl dX1_init_40 ?_
  refine E_iload_n (j := 1) (i := 1) (q := 0) rfl rfl dX1_init_15 ?_
  refine E_aload_n (j := 0) (i := 0) (q := 1) rfl rfl dX1_init_16 ?_
  refine gf_RX1_11 (v := (A + 1)) rfl s0 (by rw [o0]; omega) (by simp [gR_I, gR_R]) dX1_init_17 ?_
  refine E_alen _ (Nat.le_of_ble_eq_true rfl) s1 (by rw [o1]; omega) dX1_init_20 ?_
  refine E_icmp_ge (tgt := 43) rfl dX1_init_21 (fun h9 => absurd h9 (by decide)) (fun _ => ?_)
  refine E_aload_n (j := 0) (i := 0) (q := 1) rfl rfl dX1_init_24 ?_
  refine gf_RX1_11 (v := (A + 1)) rfl s0 (by rw [o0]; omega) (by simp [gR_I, gR_R]) dX1_init_25 ?_
  refine E_iload_n (j := 1) (i := 1) (q := 0) rfl rfl dX1_init_28 ?_
  refine E_newZ (kc := 21) (ks := 173) (kk := (A + 5)) (ci := 6) (N := 5) tyX4 rfl rfl win_X4 tyX4_ok hft_X4 wC6 wC7 wT35 rfl i5 o5 s5 (Zf_at hZ s5 (by rw [o5]; exact Nat.le_refl _)) dX1_init_29 ?_
  have hZ := Zf_up hZ
  rw [show (m + 5) + 1 = (m + 6) from rfl] at hZ
  show E l X_X1_init _ true (m + 6) _ _ _ _ _ _
  refine E_dup rfl dX1_init_32 ?_
  refine E_callIN (kc := 21) (ks := 173) (na := 0) (As := []) (S := [.ref (A + 5), .int (3 : Int32), .ref (A + 1)]) (bk := (A + 5)) cwI_RX1_17 ⟨Nat.le_of_ble_eq_true rfl, Nat.le_of_ble_eq_true rfl⟩ (T_X4_init hfl _ _ (A + 5)) rfl rfl rfl (Nat.le_of_ble_eq_true rfl) dX1_init_33 ?_
  refine E_aast (ci := 6) _ rfl (Or.inl ⟨rfl, rfl⟩) s1 (by rw [o1]; omega) s5 (by rw [o5]; omega) (by decide : inR (3 : Int32) 6) dX1_init_36 ?_
  have hZ := Zf_R (k := (A + 1)) (j := 3) (v := some (A + 5)) (by rw [o1]; omega) hZ
  rw [(by decide : Int32.toNatClampNeg (3 : Int32) = 3)]
  refine E_iinc (q := 0) (v := (4 : Int32)) (L' := [(1, .int (4 : Int32)), (0, .ref A)]) rfl (by decide) (Nat.le_of_ble_eq_true rfl) rfl dX1_init_37 ?_
  refine E_goto (tgt := 15) rfl dX1_init_40 ?_
  refine E_iload_n (j := 1) (i := 1) (q := 0) rfl rfl dX1_init_15 ?_
  refine E_aload_n (j := 0) (i := 0) (q := 1) rfl rfl dX1_init_16 ?_
  refine gf_RX1_11 (v := (A + 1)) rfl s0 (by rw [o0]; omega) (by simp [gR_I, gR_R]) dX1_init_17 ?_
  refine E_alen _ (Nat.le_of_ble_eq_true rfl) s1 (by rw [o1]; omega) dX1_init_20 ?_
  refine E_icmp_ge (tgt := 43) rfl dX1_init_21 (fun h9 => absurd h9 (by decide)) (fun _ => ?_)
  refine E_aload_n (j := 0) (i := 0) (q := 1) rfl rfl dX1_init_24 ?_
  refine gf_RX1_11 (v := (A + 1)) rfl s0 (by rw [o0]; omega) (by simp [gR_I, gR_R]) dX1_init_25 ?_
  refine E_iload_n (j := 1) (i := 1) (q := 0) rfl rfl dX1_init_28 ?_
  refine E_newZ (kc := 20) (ks := 168) (kk := (A + 6)) (ci := 6) (N := 5) tyX4 rfl rfl win_X4 tyX4_ok hft_X4 wC6 wC7 wT35 rfl i6 o6 s6 (Zf_at hZ s6 (by rw [o6]; exact Nat.le_refl _)) dX1_init_29 ?_
  have hZ := Zf_up hZ
  rw [show (m + 6) + 1 = (m + 7) from rfl] at hZ
  show E l X_X1_init _ true (m + 7) _ _ _ _ _ _
  refine E_dup rfl dX1_init_32 ?_
  refine E_callIN (kc := 20) (ks := 168) (na := 0) (As := []) (S := [.ref (A + 6), .int (4 : Int32), .ref (A + 1)]) (bk := (A + 6)) cwI_RX1_17 ⟨Nat.le_of_ble_eq_true rfl, Nat.le_of_ble_eq_true rfl⟩ (T_X4_init hfl _ _ (A + 6)) rfl rfl rfl (Nat.le_of_ble_eq_true rfl) dX1_init_33 ?_
  refine E_aast (ci := 6) _ rfl (Or.inl ⟨rfl, rfl⟩) s1 (by rw [o1]; omega) s6 (by rw [o6]; omega) (by decide : inR (4 : Int32) 6) dX1_init_36 ?_
  have hZ := Zf_R (k := (A + 1)) (j := 4) (v := some (A + 6)) (by rw [o1]; omega) hZ
  rw [(by decide : Int32.toNatClampNeg (4 : Int32) = 4)]
  refine E_iinc (q := 0) (v := (5 : Int32)) (L' := [(1, .int (5 : Int32)), (0, .ref A)]) rfl (by decide) (Nat.le_of_ble_eq_true rfl) rfl dX1_init_37 ?_
  refine E_goto (tgt := 15) rfl dX1_init_40 ?_
  refine E_iload_n (j := 1) (i := 1) (q := 0) rfl rfl dX1_init_15 ?_
  refine E_aload_n (j := 0) (i := 0) (q := 1) rfl rfl dX1_init_16 ?_
  refine gf_RX1_11 (v := (A + 1)) rfl s0 (by rw [o0]; omega) (by simp [gR_I, gR_R]) dX1_init_17 ?_
  refine E_alen _ (Nat.le_of_ble_eq_true rfl) s1 (by rw [o1]; omega) dX1_init_20 ?_
  refine E_icmp_ge (tgt := 43) rfl dX1_init_21 (fun h9 => absurd h9 (by decide)) (fun _ => ?_)
  refine E_aload_n (j := 0) (i := 0) (q := 1) rfl rfl dX1_init_24 ?_
  refine gf_RX1_11 (v := (A + 1)) rfl s0 (by rw [o0]; omega) (by simp [gR_I, gR_R]) dX1_init_25 ?_
  refine E_iload_n (j := 1) (i := 1) (q := 0) rfl rfl dX1_init_28 ?_
  refine E_newZ (kc := 19) (ks := 163) (kk := (A + 7)) (ci := 6) (N := 5) tyX4 rfl rfl win_X4 tyX4_ok hft_X4 wC6 wC7 wT35 rfl i7 o7 s7 (Zf_at hZ s7 (by rw [o7]; exact Nat.le_refl _)) dX1_init_29 ?_
  have hZ := Zf_up hZ
  rw [show (m + 7) + 1 = (m + 8) from rfl] at hZ
  show E l X_X1_init _ true (m + 8) _ _ _ _ _ _
  refine E_dup rfl dX1_init_32 ?_
  refine E_callIN (kc := 19) (ks := 163) (na := 0) (As := []) (S := [.ref (A + 7), .int (5 : Int32), .ref (A + 1)]) (bk := (A + 7)) cwI_RX1_17 ⟨Nat.le_of_ble_eq_true rfl, Nat.le_of_ble_eq_true rfl⟩ (T_X4_init hfl _ _ (A + 7)) rfl rfl rfl (Nat.le_of_ble_eq_true rfl) dX1_init_33 ?_
  refine E_aast (ci := 6) _ rfl (Or.inl ⟨rfl, rfl⟩) s1 (by rw [o1]; omega) s7 (by rw [o7]; omega) (by decide : inR (5 : Int32) 6) dX1_init_36 ?_
  have hZ := Zf_R (k := (A + 1)) (j := 5) (v := some (A + 7)) (by rw [o1]; omega) hZ
  rw [(by decide : Int32.toNatClampNeg (5 : Int32) = 5)]
  refine E_iinc (q := 0) (v := (6 : Int32)) (L' := [(1, .int (6 : Int32)), (0, .ref A)]) rfl (by decide) (Nat.le_of_ble_eq_true rfl) rfl dX1_init_37 ?_
  refine E_goto (tgt := 15) rfl dX1_init_40 ?_
  refine E_iload_n (j := 1) (i := 1) (q := 0) rfl rfl dX1_init_15 ?_
  refine E_aload_n (j := 0) (i := 0) (q := 1) rfl rfl dX1_init_16 ?_
  refine gf_RX1_11 (v := (A + 1)) rfl s0 (by rw [o0]; omega) (by simp [gR_I, gR_R]) dX1_init_17 ?_
  refine E_alen _ (Nat.le_of_ble_eq_true rfl) s1 (by rw [o1]; omega) dX1_init_20 ?_
  refine E_icmp_ge (tgt := 43) rfl dX1_init_21 (fun _ => ?_) (fun h9 => absurd (by decide) h9)
  refine E_aload_n (j := 0) (i := 0) (q := 1) rfl rfl dX1_init_43 ?_
  refine E_bipush (v := (12 : Int32)) (by decide) dX1_init_44 ?_
  refine E_newq (kc := 18) (ks := 151) (kk := (A + 8)) (t := 5) (N := 12) (C := RX3) (Or.inr (Or.inl ⟨rfl, rfl⟩)) wC10 (by decide +kernel) (by decide) (by decide) (by decide) rfl i8 o8 s8 (fun j => (Zf_at hZ s8 (by rw [o8]; exact Nat.le_refl _) j).2.2.1) dX1_init_46 ?_
  have hZ := Zf_up hZ
  rw [show (m + 8) + 1 = (m + 9) from rfl] at hZ
  show E l X_X1_init _ true (m + 9) _ _ _ _ _ _
  refine pR_RX1_20 rfl rfl s0 (by rw [o0]; omega) dX1_init_49 ?_
  have hZ := Zf_R (k := A) (j := 2) (v := some (A + 8)) (by rw [o0]; omega) hZ
  refine E_iconst (v := (0 : Int32)) (by decide) dX1_init_52 ?_
  refine E_istore_n (j := 1) (i := 1) (L' := [(1, .int (0 : Int32)), (0, .ref A)]) rfl (Nat.le_of_ble_eq_true rfl) rfl dX1_init_53 ?_
  refine E_iload_n (j := 1) (i := 1) (q := 0) rfl rfl dX1_init_54 ?_
  refine E_aload_n (j := 0) (i := 0) (q := 1) rfl rfl dX1_init_55 ?_
  refine gf_RX1_20 (v := (A + 8)) rfl s0 (by rw [o0]; omega) (by simp [gR_I, gR_R]) dX1_init_56 ?_
  refine E_alen _ (Nat.le_of_ble_eq_true rfl) s8 (by rw [o8]; omega) dX1_init_59 ?_
  refine E_icmp_ge (tgt := 82) rfl dX1_init_60 (fun h9 => absurd h9 (by decide)) (fun _ => ?_)
  refine E_aload_n (j := 0) (i := 0) (q := 1) rfl rfl dX1_init_63 ?_
  refine gf_RX1_20 (v := (A + 8)) rfl s0 (by rw [o0]; omega) (by simp [gR_I, gR_R]) dX1_init_64 ?_
  refine E_iload_n (j := 1) (i := 1) (q := 0) rfl rfl dX1_init_67 ?_
  refine E_newZ (kc := 17) (ks := 140) (kk := (A + 9)) (ci := 5) (N := 11) tyX3 rfl rfl win_X3 tyX3_ok hft_X3 wC10 wC11 wT30 rfl i9 o9 s9 (Zf_at hZ s9 (by rw [o9]; exact Nat.le_refl _)) dX1_init_68 ?_
  have hZ := Zf_up hZ
  rw [show (m + 9) + 1 = (m + 10) from rfl] at hZ
  show E l X_X1_init _ true (m + 10) _ _ _ _ _ _
  refine E_dup rfl dX1_init_71 ?_
  refine E_callIN (kc := 17) (ks := 140) (na := 0) (As := []) (S := [.ref (A + 9), .int (0 : Int32), .ref (A + 8)]) (bk := (A + 9)) cwI_RX1_24 ⟨Nat.le_of_ble_eq_true rfl, Nat.le_of_ble_eq_true rfl⟩ (T_X3_init hfl _ _ (A + 9)) rfl rfl rfl (Nat.le_of_ble_eq_true rfl) dX1_init_72 ?_
  refine E_aast (ci := 5) _ rfl (Or.inr (Or.inl ⟨rfl, rfl⟩)) s8 (by rw [o8]; omega) s9 (by rw [o9]; omega) (by decide : inR (0 : Int32) 12) dX1_init_75 ?_
  have hZ := Zf_R (k := (A + 8)) (j := 0) (v := some (A + 9)) (by rw [o8]; omega) hZ
  rw [(by decide : Int32.toNatClampNeg (0 : Int32) = 0)]
  refine E_iinc (q := 0) (v := (1 : Int32)) (L' := [(1, .int (1 : Int32)), (0, .ref A)]) rfl (by decide) (Nat.le_of_ble_eq_true rfl) rfl dX1_init_76 ?_
  refine E_goto (tgt := 54) rfl dX1_init_79 ?_
  refine E_iload_n (j := 1) (i := 1) (q := 0) rfl rfl dX1_init_54 ?_
  refine E_aload_n (j := 0) (i := 0) (q := 1) rfl rfl dX1_init_55 ?_
  refine gf_RX1_20 (v := (A + 8)) rfl s0 (by rw [o0]; omega) (by simp [gR_I, gR_R]) dX1_init_56 ?_
  refine E_alen _ (Nat.le_of_ble_eq_true rfl) s8 (by rw [o8]; omega) dX1_init_59 ?_
  refine E_icmp_ge (tgt := 82) rfl dX1_init_60 (fun h9 => absurd h9 (by decide)) (fun _ => ?_)
  refine E_aload_n (j := 0) (i := 0) (q := 1) rfl rfl dX1_init_63 ?_
  refine gf_RX1_20 (v := (A + 8)) rfl s0 (by rw [o0]; omega) (by simp [gR_I, gR_R]) dX1_init_64 ?_
  refine E_iload_n (j := 1) (i := 1) (q := 0) rfl rfl dX1_init_67 ?_
  refine E_newZ (kc := 16) (ks := 129) (kk := (A + 10)) (ci := 5) (N := 11) tyX3 rfl rfl win_X3 tyX3_ok hft_X3 wC10 wC11 wT30 rfl i10 o10 s10 (Zf_at hZ s10 (by rw [o10]; exact Nat.le_refl _)) dX1_init_68 ?_
  have hZ := Zf_up hZ
  rw [show (m + 10) + 1 = (m + 11) from rfl] at hZ
  show E l X_X1_init _ true (m + 11) _ _ _ _ _ _
  refine E_dup rfl dX1_init_71 ?_
  refine E_callIN (kc := 16) (ks := 129) (na := 0) (As := []) (S := [.ref (A + 10), .int (1 : Int32), .ref (A + 8)]) (bk := (A + 10)) cwI_RX1_24 ⟨Nat.le_of_ble_eq_true rfl, Nat.le_of_ble_eq_true rfl⟩ (T_X3_init hfl _ _ (A + 10)) rfl rfl rfl (Nat.le_of_ble_eq_true rfl) dX1_init_72 ?_
  refine E_aast (ci := 5) _ rfl (Or.inr (Or.inl ⟨rfl, rfl⟩)) s8 (by rw [o8]; omega) s10 (by rw [o10]; omega) (by decide : inR (1 : Int32) 12) dX1_init_75 ?_
  have hZ := Zf_R (k := (A + 8)) (j := 1) (v := some (A + 10)) (by rw [o8]; omega) hZ
  rw [(by decide : Int32.toNatClampNeg (1 : Int32) = 1)]
  refine E_iinc (q := 0) (v := (2 : Int32)) (L' := [(1, .int (2 : Int32)), (0, .ref A)]) rfl (by decide) (Nat.le_of_ble_eq_true rfl) rfl dX1_init_76 ?_
  refine E_goto (tgt := 54) rfl dX1_init_79 ?_
  refine E_iload_n (j := 1) (i := 1) (q := 0) rfl rfl dX1_init_54 ?_
  refine E_aload_n (j := 0) (i := 0) (q := 1) rfl rfl dX1_init_55 ?_
  refine gf_RX1_20 (v := (A + 8)) rfl s0 (by rw [o0]; omega) (by simp [gR_I, gR_R]) dX1_init_56 ?_
  refine E_alen _ (Nat.le_of_ble_eq_true rfl) s8 (by rw [o8]; omega) dX1_init_59 ?_
  refine E_icmp_ge (tgt := 82) rfl dX1_init_60 (fun h9 => absurd h9 (by decide)) (fun _ => ?_)
  refine E_aload_n (j := 0) (i := 0) (q := 1) rfl rfl dX1_init_63 ?_
  refine gf_RX1_20 (v := (A + 8)) rfl s0 (by rw [o0]; omega) (by simp [gR_I, gR_R]) dX1_init_64 ?_
  refine E_iload_n (j := 1) (i := 1) (q := 0) rfl rfl dX1_init_67 ?_
  refine E_newZ (kc := 15) (ks := 118) (kk := (A + 11)) (ci := 5) (N := 11) tyX3 rfl rfl win_X3 tyX3_ok hft_X3 wC10 wC11 wT30 rfl i11 o11 s11 (Zf_at hZ s11 (by rw [o11]; exact Nat.le_refl _)) dX1_init_68 ?_
  have hZ := Zf_up hZ
  rw [show (m + 11) + 1 = (m + 12) from rfl] at hZ
  show E l X_X1_init _ true (m + 12) _ _ _ _ _ _
  refine E_dup rfl dX1_init_71 ?_
  refine E_callIN (kc := 15) (ks := 118) (na := 0) (As := []) (S := [.ref (A + 11), .int (2 : Int32), .ref (A + 8)]) (bk := (A + 11)) cwI_RX1_24 ⟨Nat.le_of_ble_eq_true rfl, Nat.le_of_ble_eq_true rfl⟩ (T_X3_init hfl _ _ (A + 11)) rfl rfl rfl (Nat.le_of_ble_eq_true rfl) dX1_init_72 ?_
  refine E_aast (ci := 5) _ rfl (Or.inr (Or.inl ⟨rfl, rfl⟩)) s8 (by rw [o8]; omega) s11 (by rw [o11]; omega) (by decide : inR (2 : Int32) 12) dX1_init_75 ?_
  have hZ := Zf_R (k := (A + 8)) (j := 2) (v := some (A + 11)) (by rw [o8]; omega) hZ
  rw [(by decide : Int32.toNatClampNeg (2 : Int32) = 2)]
  refine E_iinc (q := 0) (v := (3 : Int32)) (L' := [(1, .int (3 : Int32)), (0, .ref A)]) rfl (by decide) (Nat.le_of_ble_eq_true rfl) rfl dX1_init_76 ?_
  refine E_goto (tgt := 54) rfl dX1_init_79 ?_
  refine E_iload_n (j := 1) (i := 1) (q := 0) rfl rfl dX1_init_54 ?_
  refine E_aload_n (j := 0) (i := 0) (q := 1) rfl rfl dX1_init_55 ?_
  refine gf_RX1_20 (v := (A + 8)) rfl s0 (by rw [o0]; omega) (by simp [gR_I, gR_R]) dX1_init_56 ?_
  refine E_alen _ (Nat.le_of_ble_eq_true rfl) s8 (by rw [o8]; omega) dX1_init_59 ?_
  refine E_icmp_ge (tgt := 82) rfl dX1_init_60 (fun h9 => absurd h9 (by decide)) (fun _ => ?_)
  refine E_aload_n (j := 0) (i := 0) (q := 1) rfl rfl dX1_init_63 ?_
  refine gf_RX1_20 (v := (A + 8)) rfl s0 (by rw [o0]; omega) (by simp [gR_I, gR_R]) dX1_init_64 ?_
  refine E_iload_n (j := 1) (i := 1) (q := 0) rfl rfl dX1_init_67 ?_
  refine E_newZ (kc := 14) (ks := 107) (kk := (A + 12)) (ci := 5) (N := 11) tyX3 rfl rfl win_X3 tyX3_ok hft_X3 wC10 wC11 wT30 rfl i12 o12 s12 (Zf_at hZ s12 (by rw [o12]; exact Nat.le_refl _)) dX1_init_68 ?_
  have hZ := Zf_up hZ
  rw [show (m + 12) + 1 = (m + 13) from rfl] at hZ
  show E l X_X1_init _ true (m + 13) _ _ _ _ _ _
  refine E_dup rfl dX1_init_71 ?_
  refine E_callIN (kc := 14) (ks := 107) (na := 0) (As := []) (S := [.ref (A + 12), .int (3 : Int32), .ref (A + 8)]) (bk := (A + 12)) cwI_RX1_24 ⟨Nat.le_of_ble_eq_true rfl, Nat.le_of_ble_eq_true rfl⟩ (T_X3_init hfl _ _ (A + 12)) rfl rfl rfl (Nat.le_of_ble_eq_true rfl) dX1_init_72 ?_
  refine E_aast (ci := 5) _ rfl (Or.inr (Or.inl ⟨rfl, rfl⟩)) s8 (by rw [o8]; omega) s12 (by rw [o12]; omega) (by decide : inR (3 : Int32) 12) dX1_init_75 ?_
  have hZ := Zf_R (k := (A + 8)) (j := 3) (v := some (A + 12)) (by rw [o8]; omega) hZ
  rw [(by decide : Int32.toNatClampNeg (3 : Int32) = 3)]
  refine E_iinc (q := 0) (v := (4 : Int32)) (L' := [(1, .int (4 : Int32)), (0, .ref A)]) rfl (by decide) (Nat.le_of_ble_eq_true rfl) rfl dX1_init_76 ?_
  refine E_goto (tgt := 54) rfl dX1_init_79 ?_
  refine E_iload_n (j := 1) (i := 1) (q := 0) rfl rfl dX1_init_54 ?_
  refine E_aload_n (j := 0) (i := 0) (q := 1) rfl rfl dX1_init_55 ?_
  refine gf_RX1_20 (v := (A + 8)) rfl s0 (by rw [o0]; omega) (by simp [gR_I, gR_R]) dX1_init_56 ?_
  refine E_alen _ (Nat.le_of_ble_eq_true rfl) s8 (by rw [o8]; omega) dX1_init_59 ?_
  refine E_icmp_ge (tgt := 82) rfl dX1_init_60 (fun h9 => absurd h9 (by decide)) (fun _ => ?_)
  refine E_aload_n (j := 0) (i := 0) (q := 1) rfl rfl dX1_init_63 ?_
  refine gf_RX1_20 (v := (A + 8)) rfl s0 (by rw [o0]; omega) (by simp [gR_I, gR_R]) dX1_init_64 ?_
  refine E_iload_n (j := 1) (i := 1) (q := 0) rfl rfl dX1_init_67 ?_
  refine E_newZ (kc := 13) (ks := 96) (kk := (A + 13)) (ci := 5) (N := 11) tyX3 rfl rfl win_X3 tyX3_ok hft_X3 wC10 wC11 wT30 rfl i13 o13 s13 (Zf_at hZ s13 (by rw [o13]; exact Nat.le_refl _)) dX1_init_68 ?_
  have hZ := Zf_up hZ
  rw [show (m + 13) + 1 = (m + 14) from rfl] at hZ
  show E l X_X1_init _ true (m + 14) _ _ _ _ _ _
  refine E_dup rfl dX1_init_71 ?_
  refine E_callIN (kc := 13) (ks := 96) (na := 0) (As := []) (S := [.ref (A + 13), .int (4 : Int32), .ref (A + 8)]) (bk := (A + 13)) cwI_RX1_24 ⟨Nat.le_of_ble_eq_true rfl, Nat.le_of_ble_eq_true rfl⟩ (T_X3_init hfl _ _ (A + 13)) rfl rfl rfl (Nat.le_of_ble_eq_true rfl) dX1_init_72 ?_
  refine E_aast (ci := 5) _ rfl (Or.inr (Or.inl ⟨rfl, rfl⟩)) s8 (by rw [o8]; omega) s13 (by rw [o13]; omega) (by decide : inR (4 : Int32) 12) dX1_init_75 ?_
  have hZ := Zf_R (k := (A + 8)) (j := 4) (v := some (A + 13)) (by rw [o8]; omega) hZ
  rw [(by decide : Int32.toNatClampNeg (4 : Int32) = 4)]
  refine E_iinc (q := 0) (v := (5 : Int32)) (L' := [(1, .int (5 : Int32)), (0, .ref A)]) rfl (by decide) (Nat.le_of_ble_eq_true rfl) rfl dX1_init_76 ?_
  refine E_goto (tgt := 54) rfl dX1_init_79 ?_
  refine E_iload_n (j := 1) (i := 1) (q := 0) rfl rfl dX1_init_54 ?_
  refine E_aload_n (j := 0) (i := 0) (q := 1) rfl rfl dX1_init_55 ?_
  refine gf_RX1_20 (v := (A + 8)) rfl s0 (by rw [o0]; omega) (by simp [gR_I, gR_R]) dX1_init_56 ?_
  refine E_alen _ (Nat.le_of_ble_eq_true rfl) s8 (by rw [o8]; omega) dX1_init_59 ?_
  refine E_icmp_ge (tgt := 82) rfl dX1_init_60 (fun h9 => absurd h9 (by decide)) (fun _ => ?_)
  refine E_aload_n (j := 0) (i := 0) (q := 1) rfl rfl dX1_init_63 ?_
  refine gf_RX1_20 (v := (A + 8)) rfl s0 (by rw [o0]; omega) (by simp [gR_I, gR_R]) dX1_init_64 ?_
  refine E_iload_n (j := 1) (i := 1) (q := 0) rfl rfl dX1_init_67 ?_
  refine E_newZ (kc := 12) (ks := 85) (kk := (A + 14)) (ci := 5) (N := 11) tyX3 rfl rfl win_X3 tyX3_ok hft_X3 wC10 wC11 wT30 rfl i14 o14 s14 (Zf_at hZ s14 (by rw [o14]; exact Nat.le_refl _)) dX1_init_68 ?_
  have hZ := Zf_up hZ
  rw [show (m + 14) + 1 = (m + 15) from rfl] at hZ
  show E l X_X1_init _ true (m + 15) _ _ _ _ _ _
  refine E_dup rfl dX1_init_71 ?_
  refine E_callIN (kc := 12) (ks := 85) (na := 0) (As := []) (S := [.ref (A + 14), .int (5 : Int32), .ref (A + 8)]) (bk := (A + 14)) cwI_RX1_24 ⟨Nat.le_of_ble_eq_true rfl, Nat.le_of_ble_eq_true rfl⟩ (T_X3_init hfl _ _ (A + 14)) rfl rfl rfl (Nat.le_of_ble_eq_true rfl) dX1_init_72 ?_
  refine E_aast (ci := 5) _ rfl (Or.inr (Or.inl ⟨rfl, rfl⟩)) s8 (by rw [o8]; omega) s14 (by rw [o14]; omega) (by decide : inR (5 : Int32) 12) dX1_init_75 ?_
  have hZ := Zf_R (k := (A + 8)) (j := 5) (v := some (A + 14)) (by rw [o8]; omega) hZ
  rw [(by decide : Int32.toNatClampNeg (5 : Int32) = 5)]
  refine E_iinc (q := 0) (v := (6 : Int32)) (L' := [(1, .int (6 : Int32)), (0, .ref A)]) rfl (by decide) (Nat.le_of_ble_eq_true rfl) rfl dX1_init_76 ?_
  refine E_goto (tgt := 54) rfl dX1_init_79 ?_
  refine E_iload_n (j := 1) (i := 1) (q := 0) rfl rfl dX1_init_54 ?_
  refine E_aload_n (j := 0) (i := 0) (q := 1) rfl rfl dX1_init_55 ?_
  refine gf_RX1_20 (v := (A + 8)) rfl s0 (by rw [o0]; omega) (by simp [gR_I, gR_R]) dX1_init_56 ?_
  refine E_alen _ (Nat.le_of_ble_eq_true rfl) s8 (by rw [o8]; omega) dX1_init_59 ?_
  refine E_icmp_ge (tgt := 82) rfl dX1_init_60 (fun h9 => absurd h9 (by decide)) (fun _ => ?_)
  refine E_aload_n (j := 0) (i := 0) (q := 1) rfl rfl dX1_init_63 ?_
  refine gf_RX1_20 (v := (A + 8)) rfl s0 (by rw [o0]; omega) (by simp [gR_I, gR_R]) dX1_init_64 ?_
  refine E_iload_n (j := 1) (i := 1) (q := 0) rfl rfl dX1_init_67 ?_
  refine E_newZ (kc := 11) (ks := 74) (kk := (A + 15)) (ci := 5) (N := 11) tyX3 rfl rfl win_X3 tyX3_ok hft_X3 wC10 wC11 wT30 rfl i15 o15 s15 (Zf_at hZ s15 (by rw [o15]; exact Nat.le_refl _)) dX1_init_68 ?_
  have hZ := Zf_up hZ
  rw [show (m + 15) + 1 = (m + 16) from rfl] at hZ
  show E l X_X1_init _ true (m + 16) _ _ _ _ _ _
  refine E_dup rfl dX1_init_71 ?_
  refine E_callIN (kc := 11) (ks := 74) (na := 0) (As := []) (S := [.ref (A + 15), .int (6 : Int32), .ref (A + 8)]) (bk := (A + 15)) cwI_RX1_24 ⟨Nat.le_of_ble_eq_true rfl, Nat.le_of_ble_eq_true rfl⟩ (T_X3_init hfl _ _ (A + 15)) rfl rfl rfl (Nat.le_of_ble_eq_true rfl) dX1_init_72 ?_
  refine E_aast (ci := 5) _ rfl (Or.inr (Or.inl ⟨rfl, rfl⟩)) s8 (by rw [o8]; omega) s15 (by rw [o15]; omega) (by decide : inR (6 : Int32) 12) dX1_init_75 ?_
  have hZ := Zf_R (k := (A + 8)) (j := 6) (v := some (A + 15)) (by rw [o8]; omega) hZ
  rw [(by decide : Int32.toNatClampNeg (6 : Int32) = 6)]
  refine E_iinc (q := 0) (v := (7 : Int32)) (L' := [(1, .int (7 : Int32)), (0, .ref A)]) rfl (by decide) (Nat.le_of_ble_eq_true rfl) rfl dX1_init_76 ?_
  refine E_goto (tgt := 54) rfl dX1_init_79 ?_
  refine E_iload_n (j := 1) (i := 1) (q := 0) rfl rfl dX1_init_54 ?_
  refine E_aload_n (j := 0) (i := 0) (q := 1) rfl rfl dX1_init_55 ?_
  refine gf_RX1_20 (v := (A + 8)) rfl s0 (by rw [o0]; omega) (by simp [gR_I, gR_R]) dX1_init_56 ?_
  refine E_alen _ (Nat.le_of_ble_eq_true rfl) s8 (by rw [o8]; omega) dX1_init_59 ?_
  refine E_icmp_ge (tgt := 82) rfl dX1_init_60 (fun h9 => absurd h9 (by decide)) (fun _ => ?_)
  refine E_aload_n (j := 0) (i := 0) (q := 1) rfl rfl dX1_init_63 ?_
  refine gf_RX1_20 (v := (A + 8)) rfl s0 (by rw [o0]; omega) (by simp [gR_I, gR_R]) dX1_init_64 ?_
  refine E_iload_n (j := 1) (i := 1) (q := 0) rfl rfl dX1_init_67 ?_
  refine E_newZ (kc := 10) (ks := 63) (kk := (A + 16)) (ci := 5) (N := 11) tyX3 rfl rfl win_X3 tyX3_ok hft_X3 wC10 wC11 wT30 rfl i16 o16 s16 (Zf_at hZ s16 (by rw [o16]; exact Nat.le_refl _)) dX1_init_68 ?_
  have hZ := Zf_up hZ
  rw [show (m + 16) + 1 = (m + 17) from rfl] at hZ
  show E l X_X1_init _ true (m + 17) _ _ _ _ _ _
  refine E_dup rfl dX1_init_71 ?_
  refine E_callIN (kc := 10) (ks := 63) (na := 0) (As := []) (S := [.ref (A + 16), .int (7 : Int32), .ref (A + 8)]) (bk := (A + 16)) cwI_RX1_24 ⟨Nat.le_of_ble_eq_true rfl, Nat.le_of_ble_eq_true rfl⟩ (T_X3_init hfl _ _ (A + 16)) rfl rfl rfl (Nat.le_of_ble_eq_true rfl) dX1_init_72 ?_
  refine E_aast (ci := 5) _ rfl (Or.inr (Or.inl ⟨rfl, rfl⟩)) s8 (by rw [o8]; omega) s16 (by rw [o16]; omega) (by decide : inR (7 : Int32) 12) dX1_init_75 ?_
  have hZ := Zf_R (k := (A + 8)) (j := 7) (v := some (A + 16)) (by rw [o8]; omega) hZ
  rw [(by decide : Int32.toNatClampNeg (7 : Int32) = 7)]
  refine E_iinc (q := 0) (v := (8 : Int32)) (L' := [(1, .int (8 : Int32)), (0, .ref A)]) rfl (by decide) (Nat.le_of_ble_eq_true rfl) rfl dX1_init_76 ?_
  refine E_goto (tgt := 54) rfl dX1_init_79 ?_
  refine E_iload_n (j := 1) (i := 1) (q := 0) rfl rfl dX1_init_54 ?_
  refine E_aload_n (j := 0) (i := 0) (q := 1) rfl rfl dX1_init_55 ?_
  refine gf_RX1_20 (v := (A + 8)) rfl s0 (by rw [o0]; omega) (by simp [gR_I, gR_R]) dX1_init_56 ?_
  refine E_alen _ (Nat.le_of_ble_eq_true rfl) s8 (by rw [o8]; omega) dX1_init_59 ?_
  refine E_icmp_ge (tgt := 82) rfl dX1_init_60 (fun h9 => absurd h9 (by decide)) (fun _ => ?_)
  refine E_aload_n (j := 0) (i := 0) (q := 1) rfl rfl dX1_init_63 ?_
  refine gf_RX1_20 (v := (A + 8)) rfl s0 (by rw [o0]; omega) (by simp [gR_I, gR_R]) dX1_init_64 ?_
  refine E_iload_n (j := 1) (i := 1) (q := 0) rfl rfl dX1_init_67 ?_
  refine E_newZ (kc := 9) (ks := 52) (kk := (A + 17)) (ci := 5) (N := 11) tyX3 rfl rfl win_X3 tyX3_ok hft_X3 wC10 wC11 wT30 rfl i17 o17 s17 (Zf_at hZ s17 (by rw [o17]; exact Nat.le_refl _)) dX1_init_68 ?_
  have hZ := Zf_up hZ
  rw [show (m + 17) + 1 = (m + 18) from rfl] at hZ
  show E l X_X1_init _ true (m + 18) _ _ _ _ _ _
  refine E_dup rfl dX1_init_71 ?_
  refine E_callIN (kc := 9) (ks := 52) (na := 0) (As := []) (S := [.ref (A + 17), .int (8 : Int32), .ref (A + 8)]) (bk := (A + 17)) cwI_RX1_24 ⟨Nat.le_of_ble_eq_true rfl, Nat.le_of_ble_eq_true rfl⟩ (T_X3_init hfl _ _ (A + 17)) rfl rfl rfl (Nat.le_of_ble_eq_true rfl) dX1_init_72 ?_
  refine E_aast (ci := 5) _ rfl (Or.inr (Or.inl ⟨rfl, rfl⟩)) s8 (by rw [o8]; omega) s17 (by rw [o17]; omega) (by decide : inR (8 : Int32) 12) dX1_init_75 ?_
  have hZ := Zf_R (k := (A + 8)) (j := 8) (v := some (A + 17)) (by rw [o8]; omega) hZ
  rw [(by decide : Int32.toNatClampNeg (8 : Int32) = 8)]
  refine E_iinc (q := 0) (v := (9 : Int32)) (L' := [(1, .int (9 : Int32)), (0, .ref A)]) rfl (by decide) (Nat.le_of_ble_eq_true rfl) rfl dX1_init_76 ?_
  refine E_goto (tgt := 54) rfl dX1_init_79 ?_
  refine E_iload_n (j := 1) (i := 1) (q := 0) rfl rfl dX1_init_54 ?_
  refine E_aload_n (j := 0) (i := 0) (q := 1) rfl rfl dX1_init_55 ?_
  refine gf_RX1_20 (v := (A + 8)) rfl s0 (by rw [o0]; omega) (by simp [gR_I, gR_R]) dX1_init_56 ?_
  refine E_alen _ (Nat.le_of_ble_eq_true rfl) s8 (by rw [o8]; omega) dX1_init_59 ?_
  refine E_icmp_ge (tgt := 82) rfl dX1_init_60 (fun h9 => absurd h9 (by decide)) (fun _ => ?_)
  refine E_aload_n (j := 0) (i := 0) (q := 1) rfl rfl dX1_init_63 ?_
  refine gf_RX1_20 (v := (A + 8)) rfl s0 (by rw [o0]; omega) (by simp [gR_I, gR_R]) dX1_init_64 ?_
  refine E_iload_n (j := 1) (i := 1) (q := 0) rfl rfl dX1_init_67 ?_
  refine E_newZ (kc := 8) (ks := 41) (kk := (A + 18)) (ci := 5) (N := 11) tyX3 rfl rfl win_X3 tyX3_ok hft_X3 wC10 wC11 wT30 rfl i18 o18 s18 (Zf_at hZ s18 (by rw [o18]; exact Nat.le_refl _)) dX1_init_68 ?_
  have hZ := Zf_up hZ
  rw [show (m + 18) + 1 = (m + 19) from rfl] at hZ
  show E l X_X1_init _ true (m + 19) _ _ _ _ _ _
  refine E_dup rfl dX1_init_71 ?_
  refine E_callIN (kc := 8) (ks := 41) (na := 0) (As := []) (S := [.ref (A + 18), .int (9 : Int32), .ref (A + 8)]) (bk := (A + 18)) cwI_RX1_24 ⟨Nat.le_of_ble_eq_true rfl, Nat.le_of_ble_eq_true rfl⟩ (T_X3_init hfl _ _ (A + 18)) rfl rfl rfl (Nat.le_of_ble_eq_true rfl) dX1_init_72 ?_
  refine E_aast (ci := 5) _ rfl (Or.inr (Or.inl ⟨rfl, rfl⟩)) s8 (by rw [o8]; omega) s18 (by rw [o18]; omega) (by decide : inR (9 : Int32) 12) dX1_init_75 ?_
  have hZ := Zf_R (k := (A + 8)) (j := 9) (v := some (A + 18)) (by rw [o8]; omega) hZ
  rw [(by decide : Int32.toNatClampNeg (9 : Int32) = 9)]
  refine E_iinc (q := 0) (v := (10 : Int32)) (L' := [(1, .int (10 : Int32)), (0, .ref A)]) rfl (by decide) (Nat.le_of_ble_eq_true rfl) rfl dX1_init_76 ?_
  refine E_goto (tgt := 54) rfl dX1_init_79 ?_
  refine E_iload_n (j := 1) (i := 1) (q := 0) rfl rfl dX1_init_54 ?_
  refine E_aload_n (j := 0) (i := 0) (q := 1) rfl rfl dX1_init_55 ?_
  refine gf_RX1_20 (v := (A + 8)) rfl s0 (by rw [o0]; omega) (by simp [gR_I, gR_R]) dX1_init_56 ?_
  refine E_alen _ (Nat.le_of_ble_eq_true rfl) s8 (by rw [o8]; omega) dX1_init_59 ?_
  refine E_icmp_ge (tgt := 82) rfl dX1_init_60 (fun h9 => absurd h9 (by decide)) (fun _ => ?_)
  refine E_aload_n (j := 0) (i := 0) (q := 1) rfl rfl dX1_init_63 ?_
  refine gf_RX1_20 (v := (A + 8)) rfl s0 (by rw [o0]; omega) (by simp [gR_I, gR_R]) dX1_init_64 ?_
  refine E_iload_n (j := 1) (i := 1) (q := 0) rfl rfl dX1_init_67 ?_
  refine E_newZ (kc := 7) (ks := 30) (kk := (A + 19)) (ci := 5) (N := 11) tyX3 rfl rfl win_X3 tyX3_ok hft_X3 wC10 wC11 wT30 rfl i19 o19 s19 (Zf_at hZ s19 (by rw [o19]; exact Nat.le_refl _)) dX1_init_68 ?_
  have hZ := Zf_up hZ
  rw [show (m + 19) + 1 = (m + 20) from rfl] at hZ
  show E l X_X1_init _ true (m + 20) _ _ _ _ _ _
  refine E_dup rfl dX1_init_71 ?_
  refine E_callIN (kc := 7) (ks := 30) (na := 0) (As := []) (S := [.ref (A + 19), .int (10 : Int32), .ref (A + 8)]) (bk := (A + 19)) cwI_RX1_24 ⟨Nat.le_of_ble_eq_true rfl, Nat.le_of_ble_eq_true rfl⟩ (T_X3_init hfl _ _ (A + 19)) rfl rfl rfl (Nat.le_of_ble_eq_true rfl) dX1_init_72 ?_
  refine E_aast (ci := 5) _ rfl (Or.inr (Or.inl ⟨rfl, rfl⟩)) s8 (by rw [o8]; omega) s19 (by rw [o19]; omega) (by decide : inR (10 : Int32) 12) dX1_init_75 ?_
  have hZ := Zf_R (k := (A + 8)) (j := 10) (v := some (A + 19)) (by rw [o8]; omega) hZ
  rw [(by decide : Int32.toNatClampNeg (10 : Int32) = 10)]
  refine E_iinc (q := 0) (v := (11 : Int32)) (L' := [(1, .int (11 : Int32)), (0, .ref A)]) rfl (by decide) (Nat.le_of_ble_eq_true rfl) rfl dX1_init_76 ?_
  refine E_goto (tgt := 54) rfl dX1_init_79 ?_
  refine E_iload_n (j := 1) (i := 1) (q := 0) rfl rfl dX1_init_54 ?_
  refine E_aload_n (j := 0) (i := 0) (q := 1) rfl rfl dX1_init_55 ?_
  refine gf_RX1_20 (v := (A + 8)) rfl s0 (by rw [o0]; omega) (by simp [gR_I, gR_R]) dX1_init_56 ?_
  refine E_alen _ (Nat.le_of_ble_eq_true rfl) s8 (by rw [o8]; omega) dX1_init_59 ?_
  refine E_icmp_ge (tgt := 82) rfl dX1_init_60 (fun h9 => absurd h9 (by decide)) (fun _ => ?_)
  refine E_aload_n (j := 0) (i := 0) (q := 1) rfl rfl dX1_init_63 ?_
  refine gf_RX1_20 (v := (A + 8)) rfl s0 (by rw [o0]; omega) (by simp [gR_I, gR_R]) dX1_init_64 ?_
  refine E_iload_n (j := 1) (i := 1) (q := 0) rfl rfl dX1_init_67 ?_
  refine E_newZ (kc := 6) (ks := 19) (kk := (A + 20)) (ci := 5) (N := 11) tyX3 rfl rfl win_X3 tyX3_ok hft_X3 wC10 wC11 wT30 rfl i20 o20 s20 (Zf_at hZ s20 (by rw [o20]; exact Nat.le_refl _)) dX1_init_68 ?_
  have hZ := Zf_up hZ
  rw [show (m + 20) + 1 = (m + 21) from rfl] at hZ
  show E l X_X1_init _ true (m + 21) _ _ _ _ _ _
  refine E_dup rfl dX1_init_71 ?_
  refine E_callIN (kc := 6) (ks := 19) (na := 0) (As := []) (S := [.ref (A + 20), .int (11 : Int32), .ref (A + 8)]) (bk := (A + 20)) cwI_RX1_24 ⟨Nat.le_of_ble_eq_true rfl, Nat.le_of_ble_eq_true rfl⟩ (T_X3_init hfl _ _ (A + 20)) rfl rfl rfl (Nat.le_of_ble_eq_true rfl) dX1_init_72 ?_
  refine E_aast (ci := 5) _ rfl (Or.inr (Or.inl ⟨rfl, rfl⟩)) s8 (by rw [o8]; omega) s20 (by rw [o20]; omega) (by decide : inR (11 : Int32) 12) dX1_init_75 ?_
  have hZ := Zf_R (k := (A + 8)) (j := 11) (v := some (A + 20)) (by rw [o8]; omega) hZ
  rw [(by decide : Int32.toNatClampNeg (11 : Int32) = 11)]
  refine E_iinc (q := 0) (v := (12 : Int32)) (L' := [(1, .int (12 : Int32)), (0, .ref A)]) rfl (by decide) (Nat.le_of_ble_eq_true rfl) rfl dX1_init_76 ?_
  refine E_goto (tgt := 54) rfl dX1_init_79 ?_
  refine E_iload_n (j := 1) (i := 1) (q := 0) rfl rfl dX1_init_54 ?_
  refine E_aload_n (j := 0) (i := 0) (q := 1) rfl rfl dX1_init_55 ?_
  refine gf_RX1_20 (v := (A + 8)) rfl s0 (by rw [o0]; omega) (by simp [gR_I, gR_R]) dX1_init_56 ?_
  refine E_alen _ (Nat.le_of_ble_eq_true rfl) s8 (by rw [o8]; omega) dX1_init_59 ?_
  refine E_icmp_ge (tgt := 82) rfl dX1_init_60 (fun _ => ?_) (fun h9 => absurd (by decide) h9)
  refine E_aload_n (j := 0) (i := 0) (q := 1) rfl rfl dX1_init_82 ?_
  refine E_iconst (v := (4 : Int32)) (by decide) dX1_init_83 ?_
  refine E_newq (kc := 5) (ks := 15) (kk := (A + 21)) (t := 6) (N := 4) (C := RX6) (Or.inr (Or.inr (Or.inl ⟨rfl, rfl⟩))) wC14 (by decide +kernel) (by decide) (by decide) (by decide) rfl i21 o21 s21 (fun j => (Zf_at hZ s21 (by rw [o21]; exact Nat.le_refl _) j).2.2.1) dX1_init_84 ?_
  have hZ := Zf_up hZ
  rw [show (m + 21) + 1 = (m + 22) from rfl] at hZ
  show E l X_X1_init _ true (m + 22) _ _ _ _ _ _
  refine pR_RX1_27 rfl rfl s0 (by rw [o0]; omega) dX1_init_87 ?_
  have hZ := Zf_R (k := A) (j := 4) (v := some (A + 21)) (by rw [o0]; omega) hZ
  refine E_iconst (v := (0 : Int32)) (by decide) dX1_init_90 ?_
  refine E_istore_n (j := 1) (i := 1) (L' := [(1, .int (0 : Int32)), (0, .ref A)]) rfl (Nat.le_of_ble_eq_true rfl) rfl dX1_init_91 ?_
  refine E_iload_n (j := 1) (i := 1) (q := 0) rfl rfl dX1_init_92 ?_
  refine E_aload_n (j := 0) (i := 0) (q := 1) rfl rfl dX1_init_93 ?_
  refine gf_RX1_27 (v := (A + 21)) rfl s0 (by rw [o0]; omega) (by simp [gR_I, gR_R]) dX1_init_94 ?_
  refine E_alen _ (Nat.le_of_ble_eq_true rfl) s21 (by rw [o21]; omega) dX1_init_97 ?_
  refine E_icmp_ge (tgt := 120) rfl dX1_init_98 (fun h9 => absurd h9 (by decide)) (fun _ => ?_)
  refine E_aload_n (j := 0) (i := 0) (q := 1) rfl rfl dX1_init_101 ?_
  refine gf_RX1_27 (v := (A + 21)) rfl s0 (by rw [o0]; omega) (by simp [gR_I, gR_R]) dX1_init_102 ?_
  refine E_iload_n (j := 1) (i := 1) (q := 0) rfl rfl dX1_init_105 ?_
  refine E_newZ (kc := 4) (ks := 12) (kk := (A + 22)) (ci := 8) (N := 3) tyX6 rfl rfl win_X6 tyX6_ok hft_X6 wC14 wC15 wT25 rfl i22 o22 s22 (Zf_at hZ s22 (by rw [o22]; exact Nat.le_refl _)) dX1_init_106 ?_
  have hZ := Zf_up hZ
  rw [show (m + 22) + 1 = (m + 23) from rfl] at hZ
  show E l X_X1_init _ true (m + 23) _ _ _ _ _ _
  refine E_dup rfl dX1_init_109 ?_
  refine E_callIN (kc := 4) (ks := 12) (na := 0) (As := []) (S := [.ref (A + 22), .int (0 : Int32), .ref (A + 21)]) (bk := (A + 22)) cwI_RX1_31 ⟨Nat.le_of_ble_eq_true rfl, Nat.le_of_ble_eq_true rfl⟩ (T_X6_init hfl _ _ (A + 22)) rfl rfl rfl (Nat.le_of_ble_eq_true rfl) dX1_init_110 ?_
  refine E_aast (ci := 8) _ rfl (Or.inr (Or.inr (Or.inl ⟨rfl, rfl⟩))) s21 (by rw [o21]; omega) s22 (by rw [o22]; omega) (by decide : inR (0 : Int32) 4) dX1_init_113 ?_
  have hZ := Zf_R (k := (A + 21)) (j := 0) (v := some (A + 22)) (by rw [o21]; omega) hZ
  rw [(by decide : Int32.toNatClampNeg (0 : Int32) = 0)]
  refine E_iinc (q := 0) (v := (1 : Int32)) (L' := [(1, .int (1 : Int32)), (0, .ref A)]) rfl (by decide) (Nat.le_of_ble_eq_true rfl) rfl dX1_init_114 ?_
  refine E_goto (tgt := 92) rfl dX1_init_117 ?_
  refine E_iload_n (j := 1) (i := 1) (q := 0) rfl rfl dX1_init_92 ?_
  refine E_aload_n (j := 0) (i := 0) (q := 1) rfl rfl dX1_init_93 ?_
  refine gf_RX1_27 (v := (A + 21)) rfl s0 (by rw [o0]; omega) (by simp [gR_I, gR_R]) dX1_init_94 ?_
  refine E_alen _ (Nat.le_of_ble_eq_true rfl) s21 (by rw [o21]; omega) dX1_init_97 ?_
  refine E_icmp_ge (tgt := 120) rfl dX1_init_98 (fun h9 => absurd h9 (by decide)) (fun _ => ?_)
  refine E_aload_n (j := 0) (i := 0) (q := 1) rfl rfl dX1_init_101 ?_
  refine gf_RX1_27 (v := (A + 21)) rfl s0 (by rw [o0]; omega) (by simp [gR_I, gR_R]) dX1_init_102 ?_
  refine E_iload_n (j := 1) (i := 1) (q := 0) rfl rfl dX1_init_105 ?_
  refine E_newZ (kc := 3) (ks := 9) (kk := (A + 23)) (ci := 8) (N := 3) tyX6 rfl rfl win_X6 tyX6_ok hft_X6 wC14 wC15 wT25 rfl i23 o23 s23 (Zf_at hZ s23 (by rw [o23]; exact Nat.le_refl _)) dX1_init_106 ?_
  have hZ := Zf_up hZ
  rw [show (m + 23) + 1 = (m + 24) from rfl] at hZ
  show E l X_X1_init _ true (m + 24) _ _ _ _ _ _
  refine E_dup rfl dX1_init_109 ?_
  refine E_callIN (kc := 3) (ks := 9) (na := 0) (As := []) (S := [.ref (A + 23), .int (1 : Int32), .ref (A + 21)]) (bk := (A + 23)) cwI_RX1_31 ⟨Nat.le_of_ble_eq_true rfl, Nat.le_of_ble_eq_true rfl⟩ (T_X6_init hfl _ _ (A + 23)) rfl rfl rfl (Nat.le_of_ble_eq_true rfl) dX1_init_110 ?_
  refine E_aast (ci := 8) _ rfl (Or.inr (Or.inr (Or.inl ⟨rfl, rfl⟩))) s21 (by rw [o21]; omega) s23 (by rw [o23]; omega) (by decide : inR (1 : Int32) 4) dX1_init_113 ?_
  have hZ := Zf_R (k := (A + 21)) (j := 1) (v := some (A + 23)) (by rw [o21]; omega) hZ
  rw [(by decide : Int32.toNatClampNeg (1 : Int32) = 1)]
  refine E_iinc (q := 0) (v := (2 : Int32)) (L' := [(1, .int (2 : Int32)), (0, .ref A)]) rfl (by decide) (Nat.le_of_ble_eq_true rfl) rfl dX1_init_114 ?_
  refine E_goto (tgt := 92) rfl dX1_init_117 ?_
  refine E_iload_n (j := 1) (i := 1) (q := 0) rfl rfl dX1_init_92 ?_
  refine E_aload_n (j := 0) (i := 0) (q := 1) rfl rfl dX1_init_93 ?_
  refine gf_RX1_27 (v := (A + 21)) rfl s0 (by rw [o0]; omega) (by simp [gR_I, gR_R]) dX1_init_94 ?_
  refine E_alen _ (Nat.le_of_ble_eq_true rfl) s21 (by rw [o21]; omega) dX1_init_97 ?_
  refine E_icmp_ge (tgt := 120) rfl dX1_init_98 (fun h9 => absurd h9 (by decide)) (fun _ => ?_)
  refine E_aload_n (j := 0) (i := 0) (q := 1) rfl rfl dX1_init_101 ?_
  refine gf_RX1_27 (v := (A + 21)) rfl s0 (by rw [o0]; omega) (by simp [gR_I, gR_R]) dX1_init_102 ?_
  refine E_iload_n (j := 1) (i := 1) (q := 0) rfl rfl dX1_init_105 ?_
  refine E_newZ (kc := 2) (ks := 6) (kk := (A + 24)) (ci := 8) (N := 3) tyX6 rfl rfl win_X6 tyX6_ok hft_X6 wC14 wC15 wT25 rfl i24 o24 s24 (Zf_at hZ s24 (by rw [o24]; exact Nat.le_refl _)) dX1_init_106 ?_
  have hZ := Zf_up hZ
  rw [show (m + 24) + 1 = (m + 25) from rfl] at hZ
  show E l X_X1_init _ true (m + 25) _ _ _ _ _ _
  refine E_dup rfl dX1_init_109 ?_
  refine E_callIN (kc := 2) (ks := 6) (na := 0) (As := []) (S := [.ref (A + 24), .int (2 : Int32), .ref (A + 21)]) (bk := (A + 24)) cwI_RX1_31 ⟨Nat.le_of_ble_eq_true rfl, Nat.le_of_ble_eq_true rfl⟩ (T_X6_init hfl _ _ (A + 24)) rfl rfl rfl (Nat.le_of_ble_eq_true rfl) dX1_init_110 ?_
  refine E_aast (ci := 8) _ rfl (Or.inr (Or.inr (Or.inl ⟨rfl, rfl⟩))) s21 (by rw [o21]; omega) s24 (by rw [o24]; omega) (by decide : inR (2 : Int32) 4) dX1_init_113 ?_
  have hZ := Zf_R (k := (A + 21)) (j := 2) (v := some (A + 24)) (by rw [o21]; omega) hZ
  rw [(by decide : Int32.toNatClampNeg (2 : Int32) = 2)]
  refine E_iinc (q := 0) (v := (3 : Int32)) (L' := [(1, .int (3 : Int32)), (0, .ref A)]) rfl (by decide) (Nat.le_of_ble_eq_true rfl) rfl dX1_init_114 ?_
  refine E_goto (tgt := 92) rfl dX1_init_117 ?_
  refine E_iload_n (j := 1) (i := 1) (q := 0) rfl rfl dX1_init_92 ?_
  refine E_aload_n (j := 0) (i := 0) (q := 1) rfl rfl dX1_init_93 ?_
  refine gf_RX1_27 (v := (A + 21)) rfl s0 (by rw [o0]; omega) (by simp [gR_I, gR_R]) dX1_init_94 ?_
  refine E_alen _ (Nat.le_of_ble_eq_true rfl) s21 (by rw [o21]; omega) dX1_init_97 ?_
  refine E_icmp_ge (tgt := 120) rfl dX1_init_98 (fun h9 => absurd h9 (by decide)) (fun _ => ?_)
  refine E_aload_n (j := 0) (i := 0) (q := 1) rfl rfl dX1_init_101 ?_
  refine gf_RX1_27 (v := (A + 21)) rfl s0 (by rw [o0]; omega) (by simp [gR_I, gR_R]) dX1_init_102 ?_
  refine E_iload_n (j := 1) (i := 1) (q := 0) rfl rfl dX1_init_105 ?_
  refine E_newZ (kc := 1) (ks := 3) (kk := (A + 25)) (ci := 8) (N := 3) tyX6 rfl rfl win_X6 tyX6_ok hft_X6 wC14 wC15 wT25 rfl i25 o25 s25 (Zf_at hZ s25 (by rw [o25]; exact Nat.le_refl _)) dX1_init_106 ?_
  have hZ := Zf_up hZ
  rw [show (m + 25) + 1 = (m + 26) from rfl] at hZ
  show E l X_X1_init _ true (m + 26) _ _ _ _ _ _
  refine E_dup rfl dX1_init_109 ?_
  refine E_callIN (kc := 1) (ks := 3) (na := 0) (As := []) (S := [.ref (A + 25), .int (3 : Int32), .ref (A + 21)]) (bk := (A + 25)) cwI_RX1_31 ⟨Nat.le_of_ble_eq_true rfl, Nat.le_of_ble_eq_true rfl⟩ (T_X6_init hfl _ _ (A + 25)) rfl rfl rfl (Nat.le_of_ble_eq_true rfl) dX1_init_110 ?_
  refine E_aast (ci := 8) _ rfl (Or.inr (Or.inr (Or.inl ⟨rfl, rfl⟩))) s21 (by rw [o21]; omega) s25 (by rw [o25]; omega) (by decide : inR (3 : Int32) 4) dX1_init_113 ?_
  have hZ := Zf_R (k := (A + 21)) (j := 3) (v := some (A + 25)) (by rw [o21]; omega) hZ
  rw [(by decide : Int32.toNatClampNeg (3 : Int32) = 3)]
  refine E_iinc (q := 0) (v := (4 : Int32)) (L' := [(1, .int (4 : Int32)), (0, .ref A)]) rfl (by decide) (Nat.le_of_ble_eq_true rfl) rfl dX1_init_114 ?_
  refine E_goto (tgt := 92) rfl dX1_init_117 ?_
  refine E_iload_n (j := 1) (i := 1) (q := 0) rfl rfl dX1_init_92 ?_
  refine E_aload_n (j := 0) (i := 0) (q := 1) rfl rfl dX1_init_93 ?_
  refine gf_RX1_27 (v := (A + 21)) rfl s0 (by rw [o0]; omega) (by simp [gR_I, gR_R]) dX1_init_94 ?_
  refine E_alen _ (Nat.le_of_ble_eq_true rfl) s21 (by rw [o21]; omega) dX1_init_97 ?_
  refine E_icmp_ge (tgt := 120) rfl dX1_init_98 (fun _ => ?_) (fun h9 => absurd (by decide) h9)
  refine E_aload_n (j := 0) (i := 0) (q := 1) rfl rfl dX1_init_120 ?_
  refine E_iconst (v := (3 : Int32)) (by decide) dX1_init_121 ?_
  refine E_newa (kc := 0) (ks := 0) (kk := (A + 26)) (t := 0) (N := 3) (atype := .int) (ty := .int) rfl (Or.inl ⟨rfl, rfl⟩) wC18 (by decide) (by decide) (by decide) rfl i26 o26 s26 (fun j => Z0_a (Zf_at hZ s26 (by rw [o26]; exact Nat.le_refl _)) j) dX1_init_122 ?_
  have hZ := Zf_up hZ
  rw [show (m + 26) + 1 = (m + 27) from rfl] at hZ
  show E l X_X1_init _ true (m + 27) _ _ _ _ _ _
  refine pR_RX1_32 rfl rfl s0 (by rw [o0]; omega) dX1_init_124 ?_
  have hZ := Zf_R (k := A) (j := 6) (v := some (A + 26)) (by rw [o0]; omega) hZ
  refine E_iconst (v := (0 : Int32)) (by decide) dX1_init_127 ?_
  refine E_istore_n (j := 1) (i := 1) (L' := [(1, .int (0 : Int32)), (0, .ref A)]) rfl (Nat.le_of_ble_eq_true rfl) rfl dX1_init_128 ?_
  refine E_iload_n (j := 1) (i := 1) (q := 0) rfl rfl dX1_init_129 ?_
  refine E_aload_n (j := 0) (i := 0) (q := 1) rfl rfl dX1_init_130 ?_
  refine gf_RX1_32 (v := (A + 26)) rfl s0 (by rw [o0]; omega) (by simp [gR_I, gR_R]) dX1_init_131 ?_
  refine E_alen _ (Nat.le_of_ble_eq_true rfl) s26 (by rw [o26]; omega) dX1_init_134 ?_
  refine E_icmp_ge (tgt := 152) rfl dX1_init_135 (fun h9 => absurd h9 (by decide)) (fun _ => ?_)
  refine E_aload_n (j := 0) (i := 0) (q := 1) rfl rfl dX1_init_138 ?_
  refine gf_RX1_32 (v := (A + 26)) rfl s0 (by rw [o0]; omega) (by simp [gR_I, gR_R]) dX1_init_139 ?_
  refine E_iload_n (j := 1) (i := 1) (q := 0) rfl rfl dX1_init_142 ?_
  refine E_bipush (v := (16 : Int32)) (by decide) dX1_init_143 ?_
  refine E_iast _ s26 (by rw [o26]; omega) (by decide : inR (0 : Int32) 3) dX1_init_145 ?_
  have hZ := Zf_I (k := (A + 26)) (j := 0) (v := (16 : Int32)) (by rw [o26]; omega) hZ
  rw [(by decide : Int32.toNatClampNeg (0 : Int32) = 0)]
  refine E_iinc (q := 0) (v := (1 : Int32)) (L' := [(1, .int (1 : Int32)), (0, .ref A)]) rfl (by decide) (Nat.le_of_ble_eq_true rfl) rfl dX1_init_146 ?_
  refine E_goto (tgt := 129) rfl dX1_init_149 ?_
  refine E_iload_n (j := 1) (i := 1) (q := 0) rfl rfl dX1_init_129 ?_
  refine E_aload_n (j := 0) (i := 0) (q := 1) rfl rfl dX1_init_130 ?_
  refine gf_RX1_32 (v := (A + 26)) rfl s0 (by rw [o0]; omega) (by simp [gR_I, gR_R]) dX1_init_131 ?_
  refine E_alen _ (Nat.le_of_ble_eq_true rfl) s26 (by rw [o26]; omega) dX1_init_134 ?_
  refine E_icmp_ge (tgt := 152) rfl dX1_init_135 (fun h9 => absurd h9 (by decide)) (fun _ => ?_)
  refine E_aload_n (j := 0) (i := 0) (q := 1) rfl rfl dX1_init_138 ?_
  refine gf_RX1_32 (v := (A + 26)) rfl s0 (by rw [o0]; omega) (by simp [gR_I, gR_R]) dX1_init_139 ?_
  refine E_iload_n (j := 1) (i := 1) (q := 0) rfl rfl dX1_init_142 ?_
  refine E_bipush (v := (16 : Int32)) (by decide) dX1_init_143 ?_
  refine E_iast _ s26 (by rw [o26]; omega) (by decide : inR (1 : Int32) 3) dX1_init_145 ?_
  have hZ := Zf_I (k := (A + 26)) (j := 1) (v := (16 : Int32)) (by rw [o26]; omega) hZ
  rw [(by decide : Int32.toNatClampNeg (1 : Int32) = 1)]
  refine E_iinc (q := 0) (v := (2 : Int32)) (L' := [(1, .int (2 : Int32)), (0, .ref A)]) rfl (by decide) (Nat.le_of_ble_eq_true rfl) rfl dX1_init_146 ?_
  refine E_goto (tgt := 129) rfl dX1_init_149 ?_
  refine E_iload_n (j := 1) (i := 1) (q := 0) rfl rfl dX1_init_129 ?_
  refine E_aload_n (j := 0) (i := 0) (q := 1) rfl rfl dX1_init_130 ?_
  refine gf_RX1_32 (v := (A + 26)) rfl s0 (by rw [o0]; omega) (by simp [gR_I, gR_R]) dX1_init_131 ?_
  refine E_alen _ (Nat.le_of_ble_eq_true rfl) s26 (by rw [o26]; omega) dX1_init_134 ?_
  refine E_icmp_ge (tgt := 152) rfl dX1_init_135 (fun h9 => absurd h9 (by decide)) (fun _ => ?_)
  refine E_aload_n (j := 0) (i := 0) (q := 1) rfl rfl dX1_init_138 ?_
  refine gf_RX1_32 (v := (A + 26)) rfl s0 (by rw [o0]; omega) (by simp [gR_I, gR_R]) dX1_init_139 ?_
  refine E_iload_n (j := 1) (i := 1) (q := 0) rfl rfl dX1_init_142 ?_
  refine E_bipush (v := (16 : Int32)) (by decide) dX1_init_143 ?_
  refine E_iast _ s26 (by rw [o26]; omega) (by decide : inR (2 : Int32) 3) dX1_init_145 ?_
  have hZ := Zf_I (k := (A + 26)) (j := 2) (v := (16 : Int32)) (by rw [o26]; omega) hZ
  rw [(by decide : Int32.toNatClampNeg (2 : Int32) = 2)]
  refine E_iinc (q := 0) (v := (3 : Int32)) (L' := [(1, .int (3 : Int32)), (0, .ref A)]) rfl (by decide) (Nat.le_of_ble_eq_true rfl) rfl dX1_init_146 ?_
  refine E_goto (tgt := 129) rfl dX1_init_149 ?_
  refine E_iload_n (j := 1) (i := 1) (q := 0) rfl rfl dX1_init_129 ?_
  refine E_aload_n (j := 0) (i := 0) (q := 1) rfl rfl dX1_init_130 ?_
  refine gf_RX1_32 (v := (A + 26)) rfl s0 (by rw [o0]; omega) (by simp [gR_I, gR_R]) dX1_init_131 ?_
  refine E_alen _ (Nat.le_of_ble_eq_true rfl) s26 (by rw [o26]; omega) dX1_init_134 ?_
  refine E_icmp_ge (tgt := 152) rfl dX1_init_135 (fun _ => ?_) (fun h9 => absurd (by decide) h9)
  refine E_aload_n (j := 0) (i := 0) (q := 1) rfl rfl dX1_init_152 ?_
  refine E_iconst (v := (1 : Int32)) (by decide) dX1_init_153 ?_
  refine pf_RX1_36 rfl s0 (by rw [o0]; omega) dX1_init_154 ?_
  have hZ := Zf_I (k := A) (j := 7) (v := (1 : Int32)) (by rw [o0]; omega) hZ
  exact E_vret (Or.inl rfl) rfl rfl dX1_init_157
set_option maxHeartbeats 8000000 in
set_option maxRecDepth 100000 in
theorem X1_Z {A m : Nat} {σ : Mem} (hA : ∀ o, o < 27 → shape (A + o) = campSh o ∧ ordK (A + o) = m + o ∧ idK (m + o) = A + o) (hZ : Zf (m + 1) σ) : Zf (m + 27) (X1_mem A σ) := by
  have o0 : ordK A = (m + 0) := (hA 0 (by decide)).2.1
  have o1 : ordK (A + 1) = (m + 1) := (hA 1 (by decide)).2.1
  have o2 : ordK (A + 2) = (m + 2) := (hA 2 (by decide)).2.1
  have o3 : ordK (A + 3) = (m + 3) := (hA 3 (by decide)).2.1
  have o4 : ordK (A + 4) = (m + 4) := (hA 4 (by decide)).2.1
  have o5 : ordK (A + 5) = (m + 5) := (hA 5 (by decide)).2.1
  have o6 : ordK (A + 6) = (m + 6) := (hA 6 (by decide)).2.1
  have o7 : ordK (A + 7) = (m + 7) := (hA 7 (by decide)).2.1
  have o8 : ordK (A + 8) = (m + 8) := (hA 8 (by decide)).2.1
  have o9 : ordK (A + 9) = (m + 9) := (hA 9 (by decide)).2.1
  have o10 : ordK (A + 10) = (m + 10) := (hA 10 (by decide)).2.1
  have o11 : ordK (A + 11) = (m + 11) := (hA 11 (by decide)).2.1
  have o12 : ordK (A + 12) = (m + 12) := (hA 12 (by decide)).2.1
  have o13 : ordK (A + 13) = (m + 13) := (hA 13 (by decide)).2.1
  have o14 : ordK (A + 14) = (m + 14) := (hA 14 (by decide)).2.1
  have o15 : ordK (A + 15) = (m + 15) := (hA 15 (by decide)).2.1
  have o16 : ordK (A + 16) = (m + 16) := (hA 16 (by decide)).2.1
  have o17 : ordK (A + 17) = (m + 17) := (hA 17 (by decide)).2.1
  have o18 : ordK (A + 18) = (m + 18) := (hA 18 (by decide)).2.1
  have o19 : ordK (A + 19) = (m + 19) := (hA 19 (by decide)).2.1
  have o20 : ordK (A + 20) = (m + 20) := (hA 20 (by decide)).2.1
  have o21 : ordK (A + 21) = (m + 21) := (hA 21 (by decide)).2.1
  have o22 : ordK (A + 22) = (m + 22) := (hA 22 (by decide)).2.1
  have o23 : ordK (A + 23) = (m + 23) := (hA 23 (by decide)).2.1
  have o24 : ordK (A + 24) = (m + 24) := (hA 24 (by decide)).2.1
  have o25 : ordK (A + 25) = (m + 25) := (hA 25 (by decide)).2.1
  have o26 : ordK (A + 26) = (m + 26) := (hA 26 (by decide)).2.1
  have hZ := Zf_le (n' := m + 27) (by omega) hZ
  have hZ := Zf_R (k := A) (j := 0) (v := some (A + 1)) (by rw [o0]; omega) hZ
  have hZ := Zf_R (k := (A + 1)) (j := 0) (v := some (A + 2)) (by rw [o1]; omega) hZ
  have hZ := Zf_R (k := (A + 1)) (j := 1) (v := some (A + 3)) (by rw [o1]; omega) hZ
  have hZ := Zf_R (k := (A + 1)) (j := 2) (v := some (A + 4)) (by rw [o1]; omega) hZ
  have hZ := Zf_R (k := (A + 1)) (j := 3) (v := some (A + 5)) (by rw [o1]; omega) hZ
  have hZ := Zf_R (k := (A + 1)) (j := 4) (v := some (A + 6)) (by rw [o1]; omega) hZ
  have hZ := Zf_R (k := (A + 1)) (j := 5) (v := some (A + 7)) (by rw [o1]; omega) hZ
  have hZ := Zf_R (k := A) (j := 2) (v := some (A + 8)) (by rw [o0]; omega) hZ
  have hZ := Zf_R (k := (A + 8)) (j := 0) (v := some (A + 9)) (by rw [o8]; omega) hZ
  have hZ := Zf_R (k := (A + 8)) (j := 1) (v := some (A + 10)) (by rw [o8]; omega) hZ
  have hZ := Zf_R (k := (A + 8)) (j := 2) (v := some (A + 11)) (by rw [o8]; omega) hZ
  have hZ := Zf_R (k := (A + 8)) (j := 3) (v := some (A + 12)) (by rw [o8]; omega) hZ
  have hZ := Zf_R (k := (A + 8)) (j := 4) (v := some (A + 13)) (by rw [o8]; omega) hZ
  have hZ := Zf_R (k := (A + 8)) (j := 5) (v := some (A + 14)) (by rw [o8]; omega) hZ
  have hZ := Zf_R (k := (A + 8)) (j := 6) (v := some (A + 15)) (by rw [o8]; omega) hZ
  have hZ := Zf_R (k := (A + 8)) (j := 7) (v := some (A + 16)) (by rw [o8]; omega) hZ
  have hZ := Zf_R (k := (A + 8)) (j := 8) (v := some (A + 17)) (by rw [o8]; omega) hZ
  have hZ := Zf_R (k := (A + 8)) (j := 9) (v := some (A + 18)) (by rw [o8]; omega) hZ
  have hZ := Zf_R (k := (A + 8)) (j := 10) (v := some (A + 19)) (by rw [o8]; omega) hZ
  have hZ := Zf_R (k := (A + 8)) (j := 11) (v := some (A + 20)) (by rw [o8]; omega) hZ
  have hZ := Zf_R (k := A) (j := 4) (v := some (A + 21)) (by rw [o0]; omega) hZ
  have hZ := Zf_R (k := (A + 21)) (j := 0) (v := some (A + 22)) (by rw [o21]; omega) hZ
  have hZ := Zf_R (k := (A + 21)) (j := 1) (v := some (A + 23)) (by rw [o21]; omega) hZ
  have hZ := Zf_R (k := (A + 21)) (j := 2) (v := some (A + 24)) (by rw [o21]; omega) hZ
  have hZ := Zf_R (k := (A + 21)) (j := 3) (v := some (A + 25)) (by rw [o21]; omega) hZ
  have hZ := Zf_R (k := A) (j := 6) (v := some (A + 26)) (by rw [o0]; omega) hZ
  have hZ := Zf_I (k := (A + 26)) (j := 0) (v := (16 : Int32)) (by rw [o26]; omega) hZ
  have hZ := Zf_I (k := (A + 26)) (j := 1) (v := (16 : Int32)) (by rw [o26]; omega) hZ
  have hZ := Zf_I (k := (A + 26)) (j := 2) (v := (16 : Int32)) (by rw [o26]; omega) hZ
  have hZ := Zf_I (k := A) (j := 7) (v := (1 : Int32)) (by rw [o0]; omega) hZ
  exact hZ
def X2_mem (σ : Mem) : Mem := (pR (X1_mem 288 (pR (X1_mem 256 (pR (X1_mem 224 (pR (X1_mem 192 (pR (X1_mem 160 (pR (X1_mem 128 (pR (X1_mem 96 (pR (X1_mem 64 (pR σ 334 0 (some 335))) 335 0 (some 64))) 335 1 (some 96))) 335 2 (some 128))) 335 3 (some 160))) 335 4 (some 192))) 335 5 (some 224))) 335 6 (some 256))) 335 7 (some 288))
set_option maxHeartbeats 8000000 in
set_option maxRecDepth 100000 in
theorem T_X2_init {l : Launch} (hfl : l.stackTraces = false) (σ : Mem) (hZ : Zf 69 σ) : MetN l X_X2_init true 69 σ [.ref 334] (.inr none, 286, X2_mem σ) := by
  refine met_of_E rfl rfl (by decide +kernel) hfl rfl (Nat.le_of_ble_eq_true rfl) ?_
  show E l X_X2_init _ true 69 σ 217 1672 0 [(0, .ref 334)] []
  refine E_aload_n (j := 0) (i := 0) (q := 0) rfl rfl dX2_init_0 ?_
  refine E_objInit wC19 wC1 wC2 ⟨Nat.le_of_ble_eq_true rfl, Nat.le_of_ble_eq_true rfl⟩ (Nat.le_of_ble_eq_true rfl) dX2_init_1 ?_
  refine E_aload_n (j := 0) (i := 0) (q := 0) rfl rfl dX2_init_4 ?_
  refine E_bipush (v := (8 : Int32)) (by decide) dX2_init_5 ?_
  refine E_newq (kc := 216) (ks := 1664) (kk := 335) (t := 7) (N := 8) (C := RX1) (Or.inr (Or.inr (Or.inr ⟨rfl, rfl⟩))) wC20 (by decide +kernel) (by decide) (by decide) (by decide) rfl (rfl : idK 69 = 335) (rfl : ordK 335 = 69) (rfl : shape 335 = some (.inr (7, 8))) (fun j => (Zf_at hZ (rfl : shape 335 = some (.inr (7, 8))) (by rw [(rfl : ordK 335 = 69)]; exact Nat.le_refl _) j).2.2.1) dX2_init_7 ?_
  have hZ := Zf_up hZ
  rw [show 69 + 1 = 70 from rfl] at hZ
  show E l X_X2_init _ true 70 _ _ _ _ _ _
  refine pR_RX2_11 rfl rfl (rfl : shape 334 = some (.inl 4)) (by decide) dX2_init_10 ?_
  have hZ := Zf_R (k := 334) (j := 0) (v := some 335) (by decide) hZ
  refine E_iconst (v := (0 : Int32)) (by decide) dX2_init_13 ?_
  refine E_istore_n (j := 1) (i := 1) (L' := [(1, .int (0 : Int32)), (0, .ref 334)]) rfl (Nat.le_of_ble_eq_true rfl) rfl dX2_init_14 ?_
  refine E_iload_n (j := 1) (i := 1) (q := 0) rfl rfl dX2_init_15 ?_
  refine E_aload_n (j := 0) (i := 0) (q := 1) rfl rfl dX2_init_16 ?_
  refine gf_RX2_11 (v := 335) rfl (rfl : shape 334 = some (.inl 4)) (by decide) (by simp [gR_I, gR_R, gR_X1]) dX2_init_17 ?_
  refine E_alen _ (Nat.le_of_ble_eq_true rfl) (rfl : shape 335 = some (.inr (7, 8))) (by decide) dX2_init_20 ?_
  refine E_icmp_ge (tgt := 43) rfl dX2_init_21 (fun h9 => absurd h9 (by decide)) (fun _ => ?_)
  refine E_aload_n (j := 0) (i := 0) (q := 1) rfl rfl dX2_init_24 ?_
  refine gf_RX2_11 (v := 335) rfl (rfl : shape 334 = some (.inl 4)) (by decide) (by simp [gR_I, gR_R, gR_X1]) dX2_init_25 ?_
  refine E_iload_n (j := 1) (i := 1) (q := 0) rfl rfl dX2_init_28 ?_
  refine E_newZ (kc := 215) (ks := 1655) (kk := 64) (ci := 3) (N := 9) tyX1 rfl rfl win_X1 tyX1_ok hft_X1 wC20 wC21 wT40 rfl (rfl : idK 70 = 64) (rfl : ordK 64 = 70) (rfl : shape 64 = some (.inl 3)) (Zf_at hZ (rfl : shape 64 = some (.inl 3)) (by rw [(rfl : ordK 64 = 70)]; exact Nat.le_refl _)) dX2_init_29 ?_
  have hZ := Zf_up hZ
  rw [show 70 + 1 = 71 from rfl] at hZ
  show E l X_X2_init _ true 71 _ _ _ _ _ _
  refine E_dup rfl dX2_init_32 ?_
  refine E_callI (kc := 189) (ks := 1456) (na := 0) (As := []) (S := [.ref 64, .int (0 : Int32), .ref 335]) (bk := 64) cwI_RX2_17 ⟨Nat.le_of_ble_eq_true rfl, Nat.le_of_ble_eq_true rfl⟩ (T_X1_init hfl 64 70 _ (by decide +kernel) hZ) rfl rfl rfl (Nat.le_of_ble_eq_true rfl) dX2_init_33 ?_
  have hZ := X1_Z (A := 64) (m := 70) (by decide +kernel) hZ
  show E l X_X2_init _ true 97 _ _ _ _ _ _
  refine E_aast (ci := 3) _ rfl (Or.inr (Or.inr (Or.inr ⟨rfl, rfl⟩))) (rfl : shape 335 = some (.inr (7, 8))) (by decide) (rfl : shape 64 = some (.inl 3)) (by decide) (by decide : inR (0 : Int32) 8) dX2_init_36 ?_
  have hZ := Zf_R (k := 335) (j := 0) (v := some 64) (by decide) hZ
  rw [(by decide : Int32.toNatClampNeg (0 : Int32) = 0)]
  refine E_iinc (q := 0) (v := (1 : Int32)) (L' := [(1, .int (1 : Int32)), (0, .ref 334)]) rfl (by decide) (Nat.le_of_ble_eq_true rfl) rfl dX2_init_37 ?_
  refine E_goto (tgt := 15) rfl dX2_init_40 ?_
  refine E_iload_n (j := 1) (i := 1) (q := 0) rfl rfl dX2_init_15 ?_
  refine E_aload_n (j := 0) (i := 0) (q := 1) rfl rfl dX2_init_16 ?_
  refine gf_RX2_11 (v := 335) rfl (rfl : shape 334 = some (.inl 4)) (by decide) (by simp [gR_I, gR_R, gR_X1]) dX2_init_17 ?_
  refine E_alen _ (Nat.le_of_ble_eq_true rfl) (rfl : shape 335 = some (.inr (7, 8))) (by decide) dX2_init_20 ?_
  refine E_icmp_ge (tgt := 43) rfl dX2_init_21 (fun h9 => absurd h9 (by decide)) (fun _ => ?_)
  refine E_aload_n (j := 0) (i := 0) (q := 1) rfl rfl dX2_init_24 ?_
  refine gf_RX2_11 (v := 335) rfl (rfl : shape 334 = some (.inl 4)) (by decide) (by simp [gR_I, gR_R, gR_X1]) dX2_init_25 ?_
  refine E_iload_n (j := 1) (i := 1) (q := 0) rfl rfl dX2_init_28 ?_
  refine E_newZ (kc := 188) (ks := 1447) (kk := 96) (ci := 3) (N := 9) tyX1 rfl rfl win_X1 tyX1_ok hft_X1 wC20 wC21 wT40 rfl (rfl : idK 97 = 96) (rfl : ordK 96 = 97) (rfl : shape 96 = some (.inl 3)) (Zf_at hZ (rfl : shape 96 = some (.inl 3)) (by rw [(rfl : ordK 96 = 97)]; exact Nat.le_refl _)) dX2_init_29 ?_
  have hZ := Zf_up hZ
  rw [show 97 + 1 = 98 from rfl] at hZ
  show E l X_X2_init _ true 98 _ _ _ _ _ _
  refine E_dup rfl dX2_init_32 ?_
  refine E_callI (kc := 162) (ks := 1248) (na := 0) (As := []) (S := [.ref 96, .int (1 : Int32), .ref 335]) (bk := 96) cwI_RX2_17 ⟨Nat.le_of_ble_eq_true rfl, Nat.le_of_ble_eq_true rfl⟩ (T_X1_init hfl 96 97 _ (by decide +kernel) hZ) rfl rfl rfl (Nat.le_of_ble_eq_true rfl) dX2_init_33 ?_
  have hZ := X1_Z (A := 96) (m := 97) (by decide +kernel) hZ
  show E l X_X2_init _ true 124 _ _ _ _ _ _
  refine E_aast (ci := 3) _ rfl (Or.inr (Or.inr (Or.inr ⟨rfl, rfl⟩))) (rfl : shape 335 = some (.inr (7, 8))) (by decide) (rfl : shape 96 = some (.inl 3)) (by decide) (by decide : inR (1 : Int32) 8) dX2_init_36 ?_
  have hZ := Zf_R (k := 335) (j := 1) (v := some 96) (by decide) hZ
  rw [(by decide : Int32.toNatClampNeg (1 : Int32) = 1)]
  refine E_iinc (q := 0) (v := (2 : Int32)) (L' := [(1, .int (2 : Int32)), (0, .ref 334)]) rfl (by decide) (Nat.le_of_ble_eq_true rfl) rfl dX2_init_37 ?_
  refine E_goto (tgt := 15) rfl dX2_init_40 ?_
  refine E_iload_n (j := 1) (i := 1) (q := 0) rfl rfl dX2_init_15 ?_
  refine E_aload_n (j := 0) (i := 0) (q := 1) rfl rfl dX2_init_16 ?_
  refine gf_RX2_11 (v := 335) rfl (rfl : shape 334 = some (.inl 4)) (by decide) (by simp [gR_I, gR_R, gR_X1]) dX2_init_17 ?_
  refine E_alen _ (Nat.le_of_ble_eq_true rfl) (rfl : shape 335 = some (.inr (7, 8))) (by decide) dX2_init_20 ?_
  refine E_icmp_ge (tgt := 43) rfl dX2_init_21 (fun h9 => absurd h9 (by decide)) (fun _ => ?_)
  refine E_aload_n (j := 0) (i := 0) (q := 1) rfl rfl dX2_init_24 ?_
  refine gf_RX2_11 (v := 335) rfl (rfl : shape 334 = some (.inl 4)) (by decide) (by simp [gR_I, gR_R, gR_X1]) dX2_init_25 ?_
  refine E_iload_n (j := 1) (i := 1) (q := 0) rfl rfl dX2_init_28 ?_
  refine E_newZ (kc := 161) (ks := 1239) (kk := 128) (ci := 3) (N := 9) tyX1 rfl rfl win_X1 tyX1_ok hft_X1 wC20 wC21 wT40 rfl (rfl : idK 124 = 128) (rfl : ordK 128 = 124) (rfl : shape 128 = some (.inl 3)) (Zf_at hZ (rfl : shape 128 = some (.inl 3)) (by rw [(rfl : ordK 128 = 124)]; exact Nat.le_refl _)) dX2_init_29 ?_
  have hZ := Zf_up hZ
  rw [show 124 + 1 = 125 from rfl] at hZ
  show E l X_X2_init _ true 125 _ _ _ _ _ _
  refine E_dup rfl dX2_init_32 ?_
  refine E_callI (kc := 135) (ks := 1040) (na := 0) (As := []) (S := [.ref 128, .int (2 : Int32), .ref 335]) (bk := 128) cwI_RX2_17 ⟨Nat.le_of_ble_eq_true rfl, Nat.le_of_ble_eq_true rfl⟩ (T_X1_init hfl 128 124 _ (by decide +kernel) hZ) rfl rfl rfl (Nat.le_of_ble_eq_true rfl) dX2_init_33 ?_
  have hZ := X1_Z (A := 128) (m := 124) (by decide +kernel) hZ
  show E l X_X2_init _ true 151 _ _ _ _ _ _
  refine E_aast (ci := 3) _ rfl (Or.inr (Or.inr (Or.inr ⟨rfl, rfl⟩))) (rfl : shape 335 = some (.inr (7, 8))) (by decide) (rfl : shape 128 = some (.inl 3)) (by decide) (by decide : inR (2 : Int32) 8) dX2_init_36 ?_
  have hZ := Zf_R (k := 335) (j := 2) (v := some 128) (by decide) hZ
  rw [(by decide : Int32.toNatClampNeg (2 : Int32) = 2)]
  refine E_iinc (q := 0) (v := (3 : Int32)) (L' := [(1, .int (3 : Int32)), (0, .ref 334)]) rfl (by decide) (Nat.le_of_ble_eq_true rfl) rfl dX2_init_37 ?_
  refine E_goto (tgt := 15) rfl dX2_init_40 ?_
  refine E_iload_n (j := 1) (i := 1) (q := 0) rfl rfl dX2_init_15 ?_
  refine E_aload_n (j := 0) (i := 0) (q := 1) rfl rfl dX2_init_16 ?_
  refine gf_RX2_11 (v := 335) rfl (rfl : shape 334 = some (.inl 4)) (by decide) (by simp [gR_I, gR_R, gR_X1]) dX2_init_17 ?_
  refine E_alen _ (Nat.le_of_ble_eq_true rfl) (rfl : shape 335 = some (.inr (7, 8))) (by decide) dX2_init_20 ?_
  refine E_icmp_ge (tgt := 43) rfl dX2_init_21 (fun h9 => absurd h9 (by decide)) (fun _ => ?_)
  refine E_aload_n (j := 0) (i := 0) (q := 1) rfl rfl dX2_init_24 ?_
  refine gf_RX2_11 (v := 335) rfl (rfl : shape 334 = some (.inl 4)) (by decide) (by simp [gR_I, gR_R, gR_X1]) dX2_init_25 ?_
  refine E_iload_n (j := 1) (i := 1) (q := 0) rfl rfl dX2_init_28 ?_
  refine E_newZ (kc := 134) (ks := 1031) (kk := 160) (ci := 3) (N := 9) tyX1 rfl rfl win_X1 tyX1_ok hft_X1 wC20 wC21 wT40 rfl (rfl : idK 151 = 160) (rfl : ordK 160 = 151) (rfl : shape 160 = some (.inl 3)) (Zf_at hZ (rfl : shape 160 = some (.inl 3)) (by rw [(rfl : ordK 160 = 151)]; exact Nat.le_refl _)) dX2_init_29 ?_
  have hZ := Zf_up hZ
  rw [show 151 + 1 = 152 from rfl] at hZ
  show E l X_X2_init _ true 152 _ _ _ _ _ _
  refine E_dup rfl dX2_init_32 ?_
  refine E_callI (kc := 108) (ks := 832) (na := 0) (As := []) (S := [.ref 160, .int (3 : Int32), .ref 335]) (bk := 160) cwI_RX2_17 ⟨Nat.le_of_ble_eq_true rfl, Nat.le_of_ble_eq_true rfl⟩ (T_X1_init hfl 160 151 _ (by decide +kernel) hZ) rfl rfl rfl (Nat.le_of_ble_eq_true rfl) dX2_init_33 ?_
  have hZ := X1_Z (A := 160) (m := 151) (by decide +kernel) hZ
  show E l X_X2_init _ true 178 _ _ _ _ _ _
  refine E_aast (ci := 3) _ rfl (Or.inr (Or.inr (Or.inr ⟨rfl, rfl⟩))) (rfl : shape 335 = some (.inr (7, 8))) (by decide) (rfl : shape 160 = some (.inl 3)) (by decide) (by decide : inR (3 : Int32) 8) dX2_init_36 ?_
  have hZ := Zf_R (k := 335) (j := 3) (v := some 160) (by decide) hZ
  rw [(by decide : Int32.toNatClampNeg (3 : Int32) = 3)]
  refine E_iinc (q := 0) (v := (4 : Int32)) (L' := [(1, .int (4 : Int32)), (0, .ref 334)]) rfl (by decide) (Nat.le_of_ble_eq_true rfl) rfl dX2_init_37 ?_
  refine E_goto (tgt := 15) rfl dX2_init_40 ?_
  refine E_iload_n (j := 1) (i := 1) (q := 0) rfl rfl dX2_init_15 ?_
  refine E_aload_n (j := 0) (i := 0) (q := 1) rfl rfl dX2_init_16 ?_
  refine gf_RX2_11 (v := 335) rfl (rfl : shape 334 = some (.inl 4)) (by decide) (by simp [gR_I, gR_R, gR_X1]) dX2_init_17 ?_
  refine E_alen _ (Nat.le_of_ble_eq_true rfl) (rfl : shape 335 = some (.inr (7, 8))) (by decide) dX2_init_20 ?_
  refine E_icmp_ge (tgt := 43) rfl dX2_init_21 (fun h9 => absurd h9 (by decide)) (fun _ => ?_)
  refine E_aload_n (j := 0) (i := 0) (q := 1) rfl rfl dX2_init_24 ?_
  refine gf_RX2_11 (v := 335) rfl (rfl : shape 334 = some (.inl 4)) (by decide) (by simp [gR_I, gR_R, gR_X1]) dX2_init_25 ?_
  refine E_iload_n (j := 1) (i := 1) (q := 0) rfl rfl dX2_init_28 ?_
  refine E_newZ (kc := 107) (ks := 823) (kk := 192) (ci := 3) (N := 9) tyX1 rfl rfl win_X1 tyX1_ok hft_X1 wC20 wC21 wT40 rfl (rfl : idK 178 = 192) (rfl : ordK 192 = 178) (rfl : shape 192 = some (.inl 3)) (Zf_at hZ (rfl : shape 192 = some (.inl 3)) (by rw [(rfl : ordK 192 = 178)]; exact Nat.le_refl _)) dX2_init_29 ?_
  have hZ := Zf_up hZ
  rw [show 178 + 1 = 179 from rfl] at hZ
  show E l X_X2_init _ true 179 _ _ _ _ _ _
  refine E_dup rfl dX2_init_32 ?_
  refine E_callI (kc := 81) (ks := 624) (na := 0) (As := []) (S := [.ref 192, .int (4 : Int32), .ref 335]) (bk := 192) cwI_RX2_17 ⟨Nat.le_of_ble_eq_true rfl, Nat.le_of_ble_eq_true rfl⟩ (T_X1_init hfl 192 178 _ (by decide +kernel) hZ) rfl rfl rfl (Nat.le_of_ble_eq_true rfl) dX2_init_33 ?_
  have hZ := X1_Z (A := 192) (m := 178) (by decide +kernel) hZ
  show E l X_X2_init _ true 205 _ _ _ _ _ _
  refine E_aast (ci := 3) _ rfl (Or.inr (Or.inr (Or.inr ⟨rfl, rfl⟩))) (rfl : shape 335 = some (.inr (7, 8))) (by decide) (rfl : shape 192 = some (.inl 3)) (by decide) (by decide : inR (4 : Int32) 8) dX2_init_36 ?_
  have hZ := Zf_R (k := 335) (j := 4) (v := some 192) (by decide) hZ
  rw [(by decide : Int32.toNatClampNeg (4 : Int32) = 4)]
  refine E_iinc (q := 0) (v := (5 : Int32)) (L' := [(1, .int (5 : Int32)), (0, .ref 334)]) rfl (by decide) (Nat.le_of_ble_eq_true rfl) rfl dX2_init_37 ?_
  refine E_goto (tgt := 15) rfl dX2_init_40 ?_
  refine E_iload_n (j := 1) (i := 1) (q := 0) rfl rfl dX2_init_15 ?_
  refine E_aload_n (j := 0) (i := 0) (q := 1) rfl rfl dX2_init_16 ?_
  refine gf_RX2_11 (v := 335) rfl (rfl : shape 334 = some (.inl 4)) (by decide) (by simp [gR_I, gR_R, gR_X1]) dX2_init_17 ?_
  refine E_alen _ (Nat.le_of_ble_eq_true rfl) (rfl : shape 335 = some (.inr (7, 8))) (by decide) dX2_init_20 ?_
  refine E_icmp_ge (tgt := 43) rfl dX2_init_21 (fun h9 => absurd h9 (by decide)) (fun _ => ?_)
  refine E_aload_n (j := 0) (i := 0) (q := 1) rfl rfl dX2_init_24 ?_
  refine gf_RX2_11 (v := 335) rfl (rfl : shape 334 = some (.inl 4)) (by decide) (by simp [gR_I, gR_R, gR_X1]) dX2_init_25 ?_
  refine E_iload_n (j := 1) (i := 1) (q := 0) rfl rfl dX2_init_28 ?_
  refine E_newZ (kc := 80) (ks := 615) (kk := 224) (ci := 3) (N := 9) tyX1 rfl rfl win_X1 tyX1_ok hft_X1 wC20 wC21 wT40 rfl (rfl : idK 205 = 224) (rfl : ordK 224 = 205) (rfl : shape 224 = some (.inl 3)) (Zf_at hZ (rfl : shape 224 = some (.inl 3)) (by rw [(rfl : ordK 224 = 205)]; exact Nat.le_refl _)) dX2_init_29 ?_
  have hZ := Zf_up hZ
  rw [show 205 + 1 = 206 from rfl] at hZ
  show E l X_X2_init _ true 206 _ _ _ _ _ _
  refine E_dup rfl dX2_init_32 ?_
  refine E_callI (kc := 54) (ks := 416) (na := 0) (As := []) (S := [.ref 224, .int (5 : Int32), .ref 335]) (bk := 224) cwI_RX2_17 ⟨Nat.le_of_ble_eq_true rfl, Nat.le_of_ble_eq_true rfl⟩ (T_X1_init hfl 224 205 _ (by decide +kernel) hZ) rfl rfl rfl (Nat.le_of_ble_eq_true rfl) dX2_init_33 ?_
  have hZ := X1_Z (A := 224) (m := 205) (by decide +kernel) hZ
  show E l X_X2_init _ true 232 _ _ _ _ _ _
  refine E_aast (ci := 3) _ rfl (Or.inr (Or.inr (Or.inr ⟨rfl, rfl⟩))) (rfl : shape 335 = some (.inr (7, 8))) (by decide) (rfl : shape 224 = some (.inl 3)) (by decide) (by decide : inR (5 : Int32) 8) dX2_init_36 ?_
  have hZ := Zf_R (k := 335) (j := 5) (v := some 224) (by decide) hZ
  rw [(by decide : Int32.toNatClampNeg (5 : Int32) = 5)]
  refine E_iinc (q := 0) (v := (6 : Int32)) (L' := [(1, .int (6 : Int32)), (0, .ref 334)]) rfl (by decide) (Nat.le_of_ble_eq_true rfl) rfl dX2_init_37 ?_
  refine E_goto (tgt := 15) rfl dX2_init_40 ?_
  refine E_iload_n (j := 1) (i := 1) (q := 0) rfl rfl dX2_init_15 ?_
  refine E_aload_n (j := 0) (i := 0) (q := 1) rfl rfl dX2_init_16 ?_
  refine gf_RX2_11 (v := 335) rfl (rfl : shape 334 = some (.inl 4)) (by decide) (by simp [gR_I, gR_R, gR_X1]) dX2_init_17 ?_
  refine E_alen _ (Nat.le_of_ble_eq_true rfl) (rfl : shape 335 = some (.inr (7, 8))) (by decide) dX2_init_20 ?_
  refine E_icmp_ge (tgt := 43) rfl dX2_init_21 (fun h9 => absurd h9 (by decide)) (fun _ => ?_)
  refine E_aload_n (j := 0) (i := 0) (q := 1) rfl rfl dX2_init_24 ?_
  refine gf_RX2_11 (v := 335) rfl (rfl : shape 334 = some (.inl 4)) (by decide) (by simp [gR_I, gR_R, gR_X1]) dX2_init_25 ?_
  refine E_iload_n (j := 1) (i := 1) (q := 0) rfl rfl dX2_init_28 ?_
  refine E_newZ (kc := 53) (ks := 407) (kk := 256) (ci := 3) (N := 9) tyX1 rfl rfl win_X1 tyX1_ok hft_X1 wC20 wC21 wT40 rfl (rfl : idK 232 = 256) (rfl : ordK 256 = 232) (rfl : shape 256 = some (.inl 3)) (Zf_at hZ (rfl : shape 256 = some (.inl 3)) (by rw [(rfl : ordK 256 = 232)]; exact Nat.le_refl _)) dX2_init_29 ?_
  have hZ := Zf_up hZ
  rw [show 232 + 1 = 233 from rfl] at hZ
  show E l X_X2_init _ true 233 _ _ _ _ _ _
  refine E_dup rfl dX2_init_32 ?_
  refine E_callI (kc := 27) (ks := 208) (na := 0) (As := []) (S := [.ref 256, .int (6 : Int32), .ref 335]) (bk := 256) cwI_RX2_17 ⟨Nat.le_of_ble_eq_true rfl, Nat.le_of_ble_eq_true rfl⟩ (T_X1_init hfl 256 232 _ (by decide +kernel) hZ) rfl rfl rfl (Nat.le_of_ble_eq_true rfl) dX2_init_33 ?_
  have hZ := X1_Z (A := 256) (m := 232) (by decide +kernel) hZ
  show E l X_X2_init _ true 259 _ _ _ _ _ _
  refine E_aast (ci := 3) _ rfl (Or.inr (Or.inr (Or.inr ⟨rfl, rfl⟩))) (rfl : shape 335 = some (.inr (7, 8))) (by decide) (rfl : shape 256 = some (.inl 3)) (by decide) (by decide : inR (6 : Int32) 8) dX2_init_36 ?_
  have hZ := Zf_R (k := 335) (j := 6) (v := some 256) (by decide) hZ
  rw [(by decide : Int32.toNatClampNeg (6 : Int32) = 6)]
  refine E_iinc (q := 0) (v := (7 : Int32)) (L' := [(1, .int (7 : Int32)), (0, .ref 334)]) rfl (by decide) (Nat.le_of_ble_eq_true rfl) rfl dX2_init_37 ?_
  refine E_goto (tgt := 15) rfl dX2_init_40 ?_
  refine E_iload_n (j := 1) (i := 1) (q := 0) rfl rfl dX2_init_15 ?_
  refine E_aload_n (j := 0) (i := 0) (q := 1) rfl rfl dX2_init_16 ?_
  refine gf_RX2_11 (v := 335) rfl (rfl : shape 334 = some (.inl 4)) (by decide) (by simp [gR_I, gR_R, gR_X1]) dX2_init_17 ?_
  refine E_alen _ (Nat.le_of_ble_eq_true rfl) (rfl : shape 335 = some (.inr (7, 8))) (by decide) dX2_init_20 ?_
  refine E_icmp_ge (tgt := 43) rfl dX2_init_21 (fun h9 => absurd h9 (by decide)) (fun _ => ?_)
  refine E_aload_n (j := 0) (i := 0) (q := 1) rfl rfl dX2_init_24 ?_
  refine gf_RX2_11 (v := 335) rfl (rfl : shape 334 = some (.inl 4)) (by decide) (by simp [gR_I, gR_R, gR_X1]) dX2_init_25 ?_
  refine E_iload_n (j := 1) (i := 1) (q := 0) rfl rfl dX2_init_28 ?_
  refine E_newZ (kc := 26) (ks := 199) (kk := 288) (ci := 3) (N := 9) tyX1 rfl rfl win_X1 tyX1_ok hft_X1 wC20 wC21 wT40 rfl (rfl : idK 259 = 288) (rfl : ordK 288 = 259) (rfl : shape 288 = some (.inl 3)) (Zf_at hZ (rfl : shape 288 = some (.inl 3)) (by rw [(rfl : ordK 288 = 259)]; exact Nat.le_refl _)) dX2_init_29 ?_
  have hZ := Zf_up hZ
  rw [show 259 + 1 = 260 from rfl] at hZ
  show E l X_X2_init _ true 260 _ _ _ _ _ _
  refine E_dup rfl dX2_init_32 ?_
  refine E_callI (kc := 0) (ks := 0) (na := 0) (As := []) (S := [.ref 288, .int (7 : Int32), .ref 335]) (bk := 288) cwI_RX2_17 ⟨Nat.le_of_ble_eq_true rfl, Nat.le_of_ble_eq_true rfl⟩ (T_X1_init hfl 288 259 _ (by decide +kernel) hZ) rfl rfl rfl (Nat.le_of_ble_eq_true rfl) dX2_init_33 ?_
  have hZ := X1_Z (A := 288) (m := 259) (by decide +kernel) hZ
  show E l X_X2_init _ true 286 _ _ _ _ _ _
  refine E_aast (ci := 3) _ rfl (Or.inr (Or.inr (Or.inr ⟨rfl, rfl⟩))) (rfl : shape 335 = some (.inr (7, 8))) (by decide) (rfl : shape 288 = some (.inl 3)) (by decide) (by decide : inR (7 : Int32) 8) dX2_init_36 ?_
  have hZ := Zf_R (k := 335) (j := 7) (v := some 288) (by decide) hZ
  rw [(by decide : Int32.toNatClampNeg (7 : Int32) = 7)]
  refine E_iinc (q := 0) (v := (8 : Int32)) (L' := [(1, .int (8 : Int32)), (0, .ref 334)]) rfl (by decide) (Nat.le_of_ble_eq_true rfl) rfl dX2_init_37 ?_
  refine E_goto (tgt := 15) rfl dX2_init_40 ?_
  refine E_iload_n (j := 1) (i := 1) (q := 0) rfl rfl dX2_init_15 ?_
  refine E_aload_n (j := 0) (i := 0) (q := 1) rfl rfl dX2_init_16 ?_
  refine gf_RX2_11 (v := 335) rfl (rfl : shape 334 = some (.inl 4)) (by decide) (by simp [gR_I, gR_R, gR_X1]) dX2_init_17 ?_
  refine E_alen _ (Nat.le_of_ble_eq_true rfl) (rfl : shape 335 = some (.inr (7, 8))) (by decide) dX2_init_20 ?_
  refine E_icmp_ge (tgt := 43) rfl dX2_init_21 (fun _ => ?_) (fun h9 => absurd (by decide) h9)
  exact E_vret (Or.inl rfl) rfl rfl dX2_init_43
set_option maxHeartbeats 8000000 in
set_option maxRecDepth 100000 in
theorem X2_Z {σ : Mem} (hZ : Zf 69 σ) : Zf 286 (X2_mem σ) := by
  have hZ := Zf_up hZ
  rw [show 69 + 1 = 70 from rfl] at hZ
  have hZ := Zf_R (k := 334) (j := 0) (v := some 335) (by decide) hZ
  have hZ := Zf_up hZ
  rw [show 70 + 1 = 71 from rfl] at hZ
  have hZ := X1_Z (A := 64) (m := 70) (by decide +kernel) hZ
  have hZ := Zf_R (k := 335) (j := 0) (v := some 64) (by decide) hZ
  have hZ := Zf_up hZ
  rw [show 97 + 1 = 98 from rfl] at hZ
  have hZ := X1_Z (A := 96) (m := 97) (by decide +kernel) hZ
  have hZ := Zf_R (k := 335) (j := 1) (v := some 96) (by decide) hZ
  have hZ := Zf_up hZ
  rw [show 124 + 1 = 125 from rfl] at hZ
  have hZ := X1_Z (A := 128) (m := 124) (by decide +kernel) hZ
  have hZ := Zf_R (k := 335) (j := 2) (v := some 128) (by decide) hZ
  have hZ := Zf_up hZ
  rw [show 151 + 1 = 152 from rfl] at hZ
  have hZ := X1_Z (A := 160) (m := 151) (by decide +kernel) hZ
  have hZ := Zf_R (k := 335) (j := 3) (v := some 160) (by decide) hZ
  have hZ := Zf_up hZ
  rw [show 178 + 1 = 179 from rfl] at hZ
  have hZ := X1_Z (A := 192) (m := 178) (by decide +kernel) hZ
  have hZ := Zf_R (k := 335) (j := 4) (v := some 192) (by decide) hZ
  have hZ := Zf_up hZ
  rw [show 205 + 1 = 206 from rfl] at hZ
  have hZ := X1_Z (A := 224) (m := 205) (by decide +kernel) hZ
  have hZ := Zf_R (k := 335) (j := 5) (v := some 224) (by decide) hZ
  have hZ := Zf_up hZ
  rw [show 232 + 1 = 233 from rfl] at hZ
  have hZ := X1_Z (A := 256) (m := 232) (by decide +kernel) hZ
  have hZ := Zf_R (k := 335) (j := 6) (v := some 256) (by decide) hZ
  have hZ := Zf_up hZ
  rw [show 259 + 1 = 260 from rfl] at hZ
  have hZ := X1_Z (A := 288) (m := 259) (by decide +kernel) hZ
  have hZ := Zf_R (k := 335) (j := 7) (v := some 288) (by decide) hZ
  exact hZ
def X5_mem (σ : Mem) : Mem := (pR (pR (pR (pR (pR (pI (pR (pR (pI (pI (pR (pR (pR (pR (pR (pR (pR (pR (pR (X1_mem 0 σ) 321 0 (some 0)) 321 1 (some 322)) 321 3 (some 323)) 323 0 (some 322)) 323 1 (some 322)) 323 2 (some 322)) 321 4 (some 324)) 321 5 (some 325)) 321 6 (some 326)) 324 0 (-1 : Int32)) 325 0 (-1 : Int32)) 321 7 (some 327)) 321 8 (some 328)) 327 0 (-1 : Int32)) 321 9 (some 329)) 321 10 (some 330)) 321 11 (some 331)) 321 12 (some 332)) 321 13 (some 333))
set_option maxHeartbeats 8000000 in
set_option maxRecDepth 100000 in
theorem T_X5_init {l : Launch} (hfl : l.stackTraces = false) (σ : Mem) (hZ : Zf 2 σ) : MetN l X_X5_init true 2 σ [.ref 321] (.inr none, 41, X5_mem σ) := by
  refine met_of_E rfl rfl (by decide +kernel) hfl rfl (Nat.le_of_ble_eq_true rfl) ?_
  show E l X_X5_init _ true 2 σ 39 438 0 [(0, .ref 321)] []
  refine E_aload_n (j := 0) (i := 0) (q := 0) rfl rfl dX5_init_0 ?_
  refine E_objInit wC25 wC1 wC2 ⟨Nat.le_of_ble_eq_true rfl, Nat.le_of_ble_eq_true rfl⟩ (Nat.le_of_ble_eq_true rfl) dX5_init_1 ?_
  refine E_aload_n (j := 0) (i := 0) (q := 0) rfl rfl dX5_init_4 ?_
  refine E_newZ (kc := 38) (ks := 429) (kk := 0) (ci := 3) (N := 9) tyX1 rfl rfl win_X1 tyX1_ok hft_X1 wC26 wC21 wT40 rfl (rfl : idK 2 = 0) (rfl : ordK 0 = 2) (rfl : shape 0 = some (.inl 3)) (Zf_at hZ (rfl : shape 0 = some (.inl 3)) (by rw [(rfl : ordK 0 = 2)]; exact Nat.le_refl _)) dX5_init_5 ?_
  have hZ := Zf_up hZ
  rw [show 2 + 1 = 3 from rfl] at hZ
  show E l X_X5_init _ true 3 _ _ _ _ _ _
  refine E_dup rfl dX5_init_8 ?_
  refine E_callI (kc := 12) (ks := 230) (na := 0) (As := []) (S := [.ref 0, .ref 321]) (bk := 0) cwI_RX5_11 ⟨Nat.le_of_ble_eq_true rfl, Nat.le_of_ble_eq_true rfl⟩ (T_X1_init hfl 0 2 _ (by decide +kernel) hZ) rfl rfl rfl (Nat.le_of_ble_eq_true rfl) dX5_init_9 ?_
  have hZ := X1_Z (A := 0) (m := 2) (by decide +kernel) hZ
  show E l X_X5_init _ true 29 _ _ _ _ _ _
  refine pR_RX5_12 rfl rfl (rfl : shape 321 = some (.inl 7)) (by decide) dX5_init_12 ?_
  have hZ := Zf_R (k := 321) (j := 0) (v := some 0) (by decide) hZ
  refine E_aload_n (j := 0) (i := 0) (q := 0) rfl rfl dX5_init_15 ?_
  refine E_newZ (kc := 11) (ks := 219) (kk := 322) (ci := 5) (N := 11) tyX3 rfl rfl win_X3 tyX3_ok hft_X3 wC28 wC11 wT30 rfl (rfl : idK 29 = 322) (rfl : ordK 322 = 29) (rfl : shape 322 = some (.inl 5)) (Zf_at hZ (rfl : shape 322 = some (.inl 5)) (by rw [(rfl : ordK 322 = 29)]; exact Nat.le_refl _)) dX5_init_16 ?_
  have hZ := Zf_up hZ
  rw [show 29 + 1 = 30 from rfl] at hZ
  show E l X_X5_init _ true 30 _ _ _ _ _ _
  refine E_dup rfl dX5_init_19 ?_
  refine E_callIN (kc := 11) (ks := 219) (na := 0) (As := []) (S := [.ref 322, .ref 321]) (bk := 322) cwI_RX5_20 ⟨Nat.le_of_ble_eq_true rfl, Nat.le_of_ble_eq_true rfl⟩ (T_X3_init hfl _ _ 322) rfl rfl rfl (Nat.le_of_ble_eq_true rfl) dX5_init_20 ?_
  refine pR_RX5_21 rfl rfl (rfl : shape 321 = some (.inl 7)) (by decide) dX5_init_23 ?_
  have hZ := Zf_R (k := 321) (j := 1) (v := some 322) (by decide) hZ
  refine E_aload_n (j := 0) (i := 0) (q := 0) rfl rfl dX5_init_26 ?_
  refine E_iconst (v := (3 : Int32)) (by decide) dX5_init_27 ?_
  refine E_newq (kc := 10) (ks := 216) (kk := 323) (t := 5) (N := 3) (C := RX3) (Or.inr (Or.inl ⟨rfl, rfl⟩)) wC28 (by decide +kernel) (by decide) (by decide) (by decide) rfl (rfl : idK 30 = 323) (rfl : ordK 323 = 30) (rfl : shape 323 = some (.inr (5, 3))) (fun j => (Zf_at hZ (rfl : shape 323 = some (.inr (5, 3))) (by rw [(rfl : ordK 323 = 30)]; exact Nat.le_refl _) j).2.2.1) dX5_init_28 ?_
  have hZ := Zf_up hZ
  rw [show 30 + 1 = 31 from rfl] at hZ
  show E l X_X5_init _ true 31 _ _ _ _ _ _
  refine pR_RX5_25 rfl rfl (rfl : shape 321 = some (.inl 7)) (by decide) dX5_init_31 ?_
  have hZ := Zf_R (k := 321) (j := 3) (v := some 323) (by decide) hZ
  refine E_iconst (v := (0 : Int32)) (by decide) dX5_init_34 ?_
  refine E_istore_n (j := 1) (i := 1) (L' := [(1, .int (0 : Int32)), (0, .ref 321)]) rfl (Nat.le_of_ble_eq_true rfl) rfl dX5_init_35 ?_
  refine E_iload_n (j := 1) (i := 1) (q := 0) rfl rfl dX5_init_36 ?_
  refine E_iconst (v := (3 : Int32)) (by decide) dX5_init_37 ?_
  refine E_icmp_ge (tgt := 57) rfl dX5_init_38 (fun h9 => absurd h9 (by decide)) (fun _ => ?_)
  refine E_aload_n (j := 0) (i := 0) (q := 1) rfl rfl dX5_init_41 ?_
  refine gf_RX5_25 (v := 323) rfl (rfl : shape 321 = some (.inl 7)) (by decide) (by simp [gR_I, gR_R, gR_X1]) dX5_init_42 ?_
  refine E_iload_n (j := 1) (i := 1) (q := 0) rfl rfl dX5_init_45 ?_
  refine E_aload_n (j := 0) (i := 0) (q := 1) rfl rfl dX5_init_46 ?_
  refine gf_RX5_21 (v := 322) rfl (rfl : shape 321 = some (.inl 7)) (by decide) (by simp [gR_I, gR_R, gR_X1]) dX5_init_47 ?_
  refine E_aast (ci := 5) _ rfl (Or.inr (Or.inl ⟨rfl, rfl⟩)) (rfl : shape 323 = some (.inr (5, 3))) (by decide) (rfl : shape 322 = some (.inl 5)) (by decide) (by decide : inR (0 : Int32) 3) dX5_init_50 ?_
  have hZ := Zf_R (k := 323) (j := 0) (v := some 322) (by decide) hZ
  rw [(by decide : Int32.toNatClampNeg (0 : Int32) = 0)]
  refine E_iinc (q := 0) (v := (1 : Int32)) (L' := [(1, .int (1 : Int32)), (0, .ref 321)]) rfl (by decide) (Nat.le_of_ble_eq_true rfl) rfl dX5_init_51 ?_
  refine E_goto (tgt := 36) rfl dX5_init_54 ?_
  refine E_iload_n (j := 1) (i := 1) (q := 0) rfl rfl dX5_init_36 ?_
  refine E_iconst (v := (3 : Int32)) (by decide) dX5_init_37 ?_
  refine E_icmp_ge (tgt := 57) rfl dX5_init_38 (fun h9 => absurd h9 (by decide)) (fun _ => ?_)
  refine E_aload_n (j := 0) (i := 0) (q := 1) rfl rfl dX5_init_41 ?_
  refine gf_RX5_25 (v := 323) rfl (rfl : shape 321 = some (.inl 7)) (by decide) (by simp [gR_I, gR_R, gR_X1]) dX5_init_42 ?_
  refine E_iload_n (j := 1) (i := 1) (q := 0) rfl rfl dX5_init_45 ?_
  refine E_aload_n (j := 0) (i := 0) (q := 1) rfl rfl dX5_init_46 ?_
  refine gf_RX5_21 (v := 322) rfl (rfl : shape 321 = some (.inl 7)) (by decide) (by simp [gR_I, gR_R, gR_X1]) dX5_init_47 ?_
  refine E_aast (ci := 5) _ rfl (Or.inr (Or.inl ⟨rfl, rfl⟩)) (rfl : shape 323 = some (.inr (5, 3))) (by decide) (rfl : shape 322 = some (.inl 5)) (by decide) (by decide : inR (1 : Int32) 3) dX5_init_50 ?_
  have hZ := Zf_R (k := 323) (j := 1) (v := some 322) (by decide) hZ
  rw [(by decide : Int32.toNatClampNeg (1 : Int32) = 1)]
  refine E_iinc (q := 0) (v := (2 : Int32)) (L' := [(1, .int (2 : Int32)), (0, .ref 321)]) rfl (by decide) (Nat.le_of_ble_eq_true rfl) rfl dX5_init_51 ?_
  refine E_goto (tgt := 36) rfl dX5_init_54 ?_
  refine E_iload_n (j := 1) (i := 1) (q := 0) rfl rfl dX5_init_36 ?_
  refine E_iconst (v := (3 : Int32)) (by decide) dX5_init_37 ?_
  refine E_icmp_ge (tgt := 57) rfl dX5_init_38 (fun h9 => absurd h9 (by decide)) (fun _ => ?_)
  refine E_aload_n (j := 0) (i := 0) (q := 1) rfl rfl dX5_init_41 ?_
  refine gf_RX5_25 (v := 323) rfl (rfl : shape 321 = some (.inl 7)) (by decide) (by simp [gR_I, gR_R, gR_X1]) dX5_init_42 ?_
  refine E_iload_n (j := 1) (i := 1) (q := 0) rfl rfl dX5_init_45 ?_
  refine E_aload_n (j := 0) (i := 0) (q := 1) rfl rfl dX5_init_46 ?_
  refine gf_RX5_21 (v := 322) rfl (rfl : shape 321 = some (.inl 7)) (by decide) (by simp [gR_I, gR_R, gR_X1]) dX5_init_47 ?_
  refine E_aast (ci := 5) _ rfl (Or.inr (Or.inl ⟨rfl, rfl⟩)) (rfl : shape 323 = some (.inr (5, 3))) (by decide) (rfl : shape 322 = some (.inl 5)) (by decide) (by decide : inR (2 : Int32) 3) dX5_init_50 ?_
  have hZ := Zf_R (k := 323) (j := 2) (v := some 322) (by decide) hZ
  rw [(by decide : Int32.toNatClampNeg (2 : Int32) = 2)]
  refine E_iinc (q := 0) (v := (3 : Int32)) (L' := [(1, .int (3 : Int32)), (0, .ref 321)]) rfl (by decide) (Nat.le_of_ble_eq_true rfl) rfl dX5_init_51 ?_
  refine E_goto (tgt := 36) rfl dX5_init_54 ?_
  refine E_iload_n (j := 1) (i := 1) (q := 0) rfl rfl dX5_init_36 ?_
  refine E_iconst (v := (3 : Int32)) (by decide) dX5_init_37 ?_
  refine E_icmp_ge (tgt := 57) rfl dX5_init_38 (fun _ => ?_) (fun h9 => absurd (by decide) h9)
  refine E_aload_n (j := 0) (i := 0) (q := 1) rfl rfl dX5_init_57 ?_
  refine E_iconst (v := (3 : Int32)) (by decide) dX5_init_58 ?_
  refine E_newa (kc := 9) (ks := 213) (kk := 324) (t := 0) (N := 3) (atype := .int) (ty := .int) rfl (Or.inl ⟨rfl, rfl⟩) wC18 (by decide) (by decide) (by decide) rfl (rfl : idK 31 = 324) (rfl : ordK 324 = 31) (rfl : shape 324 = some (.inr (0, 3))) (fun j => Z0_a (Zf_at hZ (rfl : shape 324 = some (.inr (0, 3))) (by rw [(rfl : ordK 324 = 31)]; exact Nat.le_refl _)) j) dX5_init_59 ?_
  have hZ := Zf_up hZ
  rw [show 31 + 1 = 32 from rfl] at hZ
  show E l X_X5_init _ true 32 _ _ _ _ _ _
  refine pR_RX5_29 rfl rfl (rfl : shape 321 = some (.inl 7)) (by decide) dX5_init_61 ?_
  have hZ := Zf_R (k := 321) (j := 4) (v := some 324) (by decide) hZ
  refine E_aload_n (j := 0) (i := 0) (q := 1) rfl rfl dX5_init_64 ?_
  refine E_iconst (v := (3 : Int32)) (by decide) dX5_init_65 ?_
  refine E_newa (kc := 8) (ks := 210) (kk := 325) (t := 0) (N := 3) (atype := .int) (ty := .int) rfl (Or.inl ⟨rfl, rfl⟩) wC18 (by decide) (by decide) (by decide) rfl (rfl : idK 32 = 325) (rfl : ordK 325 = 32) (rfl : shape 325 = some (.inr (0, 3))) (fun j => Z0_a (Zf_at hZ (rfl : shape 325 = some (.inr (0, 3))) (by rw [(rfl : ordK 325 = 32)]; exact Nat.le_refl _)) j) dX5_init_66 ?_
  have hZ := Zf_up hZ
  rw [show 32 + 1 = 33 from rfl] at hZ
  show E l X_X5_init _ true 33 _ _ _ _ _ _
  refine pR_RX5_33 rfl rfl (rfl : shape 321 = some (.inl 7)) (by decide) dX5_init_68 ?_
  have hZ := Zf_R (k := 321) (j := 5) (v := some 325) (by decide) hZ
  refine E_aload_n (j := 0) (i := 0) (q := 1) rfl rfl dX5_init_71 ?_
  refine E_iconst (v := (3 : Int32)) (by decide) dX5_init_72 ?_
  refine E_newa (kc := 7) (ks := 207) (kk := 326) (t := 0) (N := 3) (atype := .int) (ty := .int) rfl (Or.inl ⟨rfl, rfl⟩) wC18 (by decide) (by decide) (by decide) rfl (rfl : idK 33 = 326) (rfl : ordK 326 = 33) (rfl : shape 326 = some (.inr (0, 3))) (fun j => Z0_a (Zf_at hZ (rfl : shape 326 = some (.inr (0, 3))) (by rw [(rfl : ordK 326 = 33)]; exact Nat.le_refl _)) j) dX5_init_73 ?_
  have hZ := Zf_up hZ
  rw [show 33 + 1 = 34 from rfl] at hZ
  show E l X_X5_init _ true 34 _ _ _ _ _ _
  refine pR_RX5_36 rfl rfl (rfl : shape 321 = some (.inl 7)) (by decide) dX5_init_75 ?_
  have hZ := Zf_R (k := 321) (j := 6) (v := some 326) (by decide) hZ
  refine E_aload_n (j := 0) (i := 0) (q := 1) rfl rfl dX5_init_78 ?_
  refine gf_RX5_29 (v := 324) rfl (rfl : shape 321 = some (.inl 7)) (by decide) (by simp [gR_I, gR_R, gR_X1]) dX5_init_79 ?_
  refine E_iconst (v := (0 : Int32)) (by decide) dX5_init_82 ?_
  refine E_iconst (v := (-1 : Int32)) (by decide) dX5_init_83 ?_
  refine E_iast _ (rfl : shape 324 = some (.inr (0, 3))) (by decide) (by decide : inR (0 : Int32) 3) dX5_init_84 ?_
  have hZ := Zf_I (k := 324) (j := 0) (v := (-1 : Int32)) (by decide) hZ
  rw [(by decide : Int32.toNatClampNeg (0 : Int32) = 0)]
  refine E_aload_n (j := 0) (i := 0) (q := 1) rfl rfl dX5_init_85 ?_
  refine gf_RX5_33 (v := 325) rfl (rfl : shape 321 = some (.inl 7)) (by decide) (by simp [gR_I, gR_R, gR_X1]) dX5_init_86 ?_
  refine E_iconst (v := (0 : Int32)) (by decide) dX5_init_89 ?_
  refine E_iconst (v := (-1 : Int32)) (by decide) dX5_init_90 ?_
  refine E_iast _ (rfl : shape 325 = some (.inr (0, 3))) (by decide) (by decide : inR (0 : Int32) 3) dX5_init_91 ?_
  have hZ := Zf_I (k := 325) (j := 0) (v := (-1 : Int32)) (by decide) hZ
  rw [(by decide : Int32.toNatClampNeg (0 : Int32) = 0)]
  refine E_aload_n (j := 0) (i := 0) (q := 1) rfl rfl dX5_init_92 ?_
  refine E_iconst (v := (3 : Int32)) (by decide) dX5_init_93 ?_
  refine E_newa (kc := 6) (ks := 204) (kk := 327) (t := 0) (N := 3) (atype := .int) (ty := .int) rfl (Or.inl ⟨rfl, rfl⟩) wC18 (by decide) (by decide) (by decide) rfl (rfl : idK 34 = 327) (rfl : ordK 327 = 34) (rfl : shape 327 = some (.inr (0, 3))) (fun j => Z0_a (Zf_at hZ (rfl : shape 327 = some (.inr (0, 3))) (by rw [(rfl : ordK 327 = 34)]; exact Nat.le_refl _)) j) dX5_init_94 ?_
  have hZ := Zf_up hZ
  rw [show 34 + 1 = 35 from rfl] at hZ
  show E l X_X5_init _ true 35 _ _ _ _ _ _
  refine pR_RX5_39 rfl rfl (rfl : shape 321 = some (.inl 7)) (by decide) dX5_init_96 ?_
  have hZ := Zf_R (k := 321) (j := 7) (v := some 327) (by decide) hZ
  refine E_aload_n (j := 0) (i := 0) (q := 1) rfl rfl dX5_init_99 ?_
  refine E_iconst (v := (3 : Int32)) (by decide) dX5_init_100 ?_
  refine E_newa (kc := 5) (ks := 201) (kk := 328) (t := 0) (N := 3) (atype := .int) (ty := .int) rfl (Or.inl ⟨rfl, rfl⟩) wC18 (by decide) (by decide) (by decide) rfl (rfl : idK 35 = 328) (rfl : ordK 328 = 35) (rfl : shape 328 = some (.inr (0, 3))) (fun j => Z0_a (Zf_at hZ (rfl : shape 328 = some (.inr (0, 3))) (by rw [(rfl : ordK 328 = 35)]; exact Nat.le_refl _)) j) dX5_init_101 ?_
  have hZ := Zf_up hZ
  rw [show 35 + 1 = 36 from rfl] at hZ
  show E l X_X5_init _ true 36 _ _ _ _ _ _
  refine pR_RX5_42 rfl rfl (rfl : shape 321 = some (.inl 7)) (by decide) dX5_init_103 ?_
  have hZ := Zf_R (k := 321) (j := 8) (v := some 328) (by decide) hZ
  refine E_aload_n (j := 0) (i := 0) (q := 1) rfl rfl dX5_init_106 ?_
  refine gf_RX5_39 (v := 327) rfl (rfl : shape 321 = some (.inl 7)) (by decide) (by simp [gR_I, gR_R, gR_X1]) dX5_init_107 ?_
  refine E_iconst (v := (0 : Int32)) (by decide) dX5_init_110 ?_
  refine E_iconst (v := (-1 : Int32)) (by decide) dX5_init_111 ?_
  refine E_iast _ (rfl : shape 327 = some (.inr (0, 3))) (by decide) (by decide : inR (0 : Int32) 3) dX5_init_112 ?_
  have hZ := Zf_I (k := 327) (j := 0) (v := (-1 : Int32)) (by decide) hZ
  rw [(by decide : Int32.toNatClampNeg (0 : Int32) = 0)]
  refine E_aload_n (j := 0) (i := 0) (q := 1) rfl rfl dX5_init_113 ?_
  refine E_iconst (v := (3 : Int32)) (by decide) dX5_init_114 ?_
  refine E_newa (kc := 4) (ks := 198) (kk := 329) (t := 0) (N := 3) (atype := .int) (ty := .int) rfl (Or.inl ⟨rfl, rfl⟩) wC18 (by decide) (by decide) (by decide) rfl (rfl : idK 36 = 329) (rfl : ordK 329 = 36) (rfl : shape 329 = some (.inr (0, 3))) (fun j => Z0_a (Zf_at hZ (rfl : shape 329 = some (.inr (0, 3))) (by rw [(rfl : ordK 329 = 36)]; exact Nat.le_refl _)) j) dX5_init_115 ?_
  have hZ := Zf_up hZ
  rw [show 36 + 1 = 37 from rfl] at hZ
  show E l X_X5_init _ true 37 _ _ _ _ _ _
  refine pR_RX5_45 rfl rfl (rfl : shape 321 = some (.inl 7)) (by decide) dX5_init_117 ?_
  have hZ := Zf_R (k := 321) (j := 9) (v := some 329) (by decide) hZ
  refine E_aload_n (j := 0) (i := 0) (q := 1) rfl rfl dX5_init_120 ?_
  refine E_bipush (v := (6 : Int32)) (by decide) dX5_init_121 ?_
  refine E_newa (kc := 3) (ks := 192) (kk := 330) (t := 1) (N := 6) (atype := .long) (ty := .long) rfl (Or.inr (Or.inl ⟨rfl, rfl⟩)) wC29 (by decide) (by decide) (by decide) rfl (rfl : idK 37 = 330) (rfl : ordK 330 = 37) (rfl : shape 330 = some (.inr (1, 6))) (fun j => Z0_a (Zf_at hZ (rfl : shape 330 = some (.inr (1, 6))) (by rw [(rfl : ordK 330 = 37)]; exact Nat.le_refl _)) j) dX5_init_123 ?_
  have hZ := Zf_up hZ
  rw [show 37 + 1 = 38 from rfl] at hZ
  show E l X_X5_init _ true 38 _ _ _ _ _ _
  refine pR_RX5_48 rfl rfl (rfl : shape 321 = some (.inl 7)) (by decide) dX5_init_125 ?_
  have hZ := Zf_R (k := 321) (j := 10) (v := some 330) (by decide) hZ
  refine E_aload_n (j := 0) (i := 0) (q := 1) rfl rfl dX5_init_128 ?_
  refine E_bipush (v := (6 : Int32)) (by decide) dX5_init_129 ?_
  refine E_newa (kc := 2) (ks := 186) (kk := 331) (t := 1) (N := 6) (atype := .long) (ty := .long) rfl (Or.inr (Or.inl ⟨rfl, rfl⟩)) wC29 (by decide) (by decide) (by decide) rfl (rfl : idK 38 = 331) (rfl : ordK 331 = 38) (rfl : shape 331 = some (.inr (1, 6))) (fun j => Z0_a (Zf_at hZ (rfl : shape 331 = some (.inr (1, 6))) (by rw [(rfl : ordK 331 = 38)]; exact Nat.le_refl _)) j) dX5_init_131 ?_
  have hZ := Zf_up hZ
  rw [show 38 + 1 = 39 from rfl] at hZ
  show E l X_X5_init _ true 39 _ _ _ _ _ _
  refine pR_RX5_52 rfl rfl (rfl : shape 321 = some (.inl 7)) (by decide) dX5_init_133 ?_
  have hZ := Zf_R (k := 321) (j := 11) (v := some 331) (by decide) hZ
  refine E_aload_n (j := 0) (i := 0) (q := 1) rfl rfl dX5_init_136 ?_
  refine E_sipush (v := (180 : Int32)) (by decide) dX5_init_137 ?_
  refine E_newa (kc := 1) (ks := 6) (kk := 332) (t := 0) (N := 180) (atype := .int) (ty := .int) rfl (Or.inl ⟨rfl, rfl⟩) wC18 (by decide) (by decide) (by decide) rfl (rfl : idK 39 = 332) (rfl : ordK 332 = 39) (rfl : shape 332 = some (.inr (0, 180))) (fun j => Z0_a (Zf_at hZ (rfl : shape 332 = some (.inr (0, 180))) (by rw [(rfl : ordK 332 = 39)]; exact Nat.le_refl _)) j) dX5_init_140 ?_
  have hZ := Zf_up hZ
  rw [show 39 + 1 = 40 from rfl] at hZ
  show E l X_X5_init _ true 40 _ _ _ _ _ _
  refine pR_RX5_55 rfl rfl (rfl : shape 321 = some (.inl 7)) (by decide) dX5_init_142 ?_
  have hZ := Zf_R (k := 321) (j := 12) (v := some 332) (by decide) hZ
  refine E_aload_n (j := 0) (i := 0) (q := 1) rfl rfl dX5_init_145 ?_
  refine E_bipush (v := (6 : Int32)) (by decide) dX5_init_146 ?_
  refine E_newa (kc := 0) (ks := 0) (kk := 333) (t := 0) (N := 6) (atype := .int) (ty := .int) rfl (Or.inl ⟨rfl, rfl⟩) wC18 (by decide) (by decide) (by decide) rfl (rfl : idK 40 = 333) (rfl : ordK 333 = 40) (rfl : shape 333 = some (.inr (0, 6))) (fun j => Z0_a (Zf_at hZ (rfl : shape 333 = some (.inr (0, 6))) (by rw [(rfl : ordK 333 = 40)]; exact Nat.le_refl _)) j) dX5_init_148 ?_
  have hZ := Zf_up hZ
  rw [show 40 + 1 = 41 from rfl] at hZ
  show E l X_X5_init _ true 41 _ _ _ _ _ _
  refine pR_RX5_58 rfl rfl (rfl : shape 321 = some (.inl 7)) (by decide) dX5_init_150 ?_
  have hZ := Zf_R (k := 321) (j := 13) (v := some 333) (by decide) hZ
  exact E_vret (Or.inl rfl) rfl rfl dX5_init_153
set_option maxHeartbeats 8000000 in
set_option maxRecDepth 100000 in
theorem X5_Z {σ : Mem} (hZ : Zf 2 σ) : Zf 41 (X5_mem σ) := by
  have hZ := Zf_up hZ
  rw [show 2 + 1 = 3 from rfl] at hZ
  have hZ := X1_Z (A := 0) (m := 2) (by decide +kernel) hZ
  have hZ := Zf_R (k := 321) (j := 0) (v := some 0) (by decide) hZ
  have hZ := Zf_up hZ
  rw [show 29 + 1 = 30 from rfl] at hZ
  have hZ := Zf_R (k := 321) (j := 1) (v := some 322) (by decide) hZ
  have hZ := Zf_up hZ
  rw [show 30 + 1 = 31 from rfl] at hZ
  have hZ := Zf_R (k := 321) (j := 3) (v := some 323) (by decide) hZ
  have hZ := Zf_R (k := 323) (j := 0) (v := some 322) (by decide) hZ
  have hZ := Zf_R (k := 323) (j := 1) (v := some 322) (by decide) hZ
  have hZ := Zf_R (k := 323) (j := 2) (v := some 322) (by decide) hZ
  have hZ := Zf_up hZ
  rw [show 31 + 1 = 32 from rfl] at hZ
  have hZ := Zf_R (k := 321) (j := 4) (v := some 324) (by decide) hZ
  have hZ := Zf_up hZ
  rw [show 32 + 1 = 33 from rfl] at hZ
  have hZ := Zf_R (k := 321) (j := 5) (v := some 325) (by decide) hZ
  have hZ := Zf_up hZ
  rw [show 33 + 1 = 34 from rfl] at hZ
  have hZ := Zf_R (k := 321) (j := 6) (v := some 326) (by decide) hZ
  have hZ := Zf_I (k := 324) (j := 0) (v := (-1 : Int32)) (by decide) hZ
  have hZ := Zf_I (k := 325) (j := 0) (v := (-1 : Int32)) (by decide) hZ
  have hZ := Zf_up hZ
  rw [show 34 + 1 = 35 from rfl] at hZ
  have hZ := Zf_R (k := 321) (j := 7) (v := some 327) (by decide) hZ
  have hZ := Zf_up hZ
  rw [show 35 + 1 = 36 from rfl] at hZ
  have hZ := Zf_R (k := 321) (j := 8) (v := some 328) (by decide) hZ
  have hZ := Zf_I (k := 327) (j := 0) (v := (-1 : Int32)) (by decide) hZ
  have hZ := Zf_up hZ
  rw [show 36 + 1 = 37 from rfl] at hZ
  have hZ := Zf_R (k := 321) (j := 9) (v := some 329) (by decide) hZ
  have hZ := Zf_up hZ
  rw [show 37 + 1 = 38 from rfl] at hZ
  have hZ := Zf_R (k := 321) (j := 10) (v := some 330) (by decide) hZ
  have hZ := Zf_up hZ
  rw [show 38 + 1 = 39 from rfl] at hZ
  have hZ := Zf_R (k := 321) (j := 11) (v := some 331) (by decide) hZ
  have hZ := Zf_up hZ
  rw [show 39 + 1 = 40 from rfl] at hZ
  have hZ := Zf_R (k := 321) (j := 12) (v := some 332) (by decide) hZ
  have hZ := Zf_up hZ
  rw [show 40 + 1 = 41 from rfl] at hZ
  have hZ := Zf_R (k := 321) (j := 13) (v := some 333) (by decide) hZ
  exact hZ
def X0_mem (σ : Mem) : Mem := (pR (pI (pR σ 336 0 (some 337)) 336 3 (-1 : Int32)) 336 5 (some 338))
set_option maxHeartbeats 8000000 in
set_option maxRecDepth 100000 in
theorem T_X0_init {l : Launch} (hfl : l.stackTraces = false) (σ : Mem) (hZ : Zf 287 σ) : MetN l X_X0_init true 287 σ [.ref 336] (.inr none, 289, X0_mem σ) := by
  refine met_of_E rfl rfl (by decide +kernel) hfl rfl (Nat.le_of_ble_eq_true rfl) ?_
  show E l X_X0_init _ true 287 σ 2 35 0 [(0, .ref 336)] []
  refine E_aload_n (j := 0) (i := 0) (q := 0) rfl rfl dX0_init_0 ?_
  refine E_objInit wC30 wC1 wC2 ⟨Nat.le_of_ble_eq_true rfl, Nat.le_of_ble_eq_true rfl⟩ (Nat.le_of_ble_eq_true rfl) dX0_init_1 ?_
  refine E_aload_n (j := 0) (i := 0) (q := 0) rfl rfl dX0_init_4 ?_
  refine E_bipush (v := (30 : Int32)) (by decide) dX0_init_5 ?_
  refine E_newa (kc := 1) (ks := 5) (kk := 337) (t := 2) (N := 30) (atype := .char) (ty := .char) rfl (Or.inr (Or.inr (Or.inl ⟨rfl, rfl⟩))) wC31 (by decide) (by decide) (by decide) rfl (rfl : idK 287 = 337) (rfl : ordK 337 = 287) (rfl : shape 337 = some (.inr (2, 30))) (fun j => Z0_a (Zf_at hZ (rfl : shape 337 = some (.inr (2, 30))) (by rw [(rfl : ordK 337 = 287)]; exact Nat.le_refl _)) j) dX0_init_7 ?_
  have hZ := Zf_up hZ
  rw [show 287 + 1 = 288 from rfl] at hZ
  show E l X_X0_init _ true 288 _ _ _ _ _ _
  refine pR_RX0_9 rfl rfl (rfl : shape 336 = some (.inl 2)) (by decide) dX0_init_9 ?_
  have hZ := Zf_R (k := 336) (j := 0) (v := some 337) (by decide) hZ
  refine E_aload_n (j := 0) (i := 0) (q := 0) rfl rfl dX0_init_12 ?_
  refine E_iconst (v := (-1 : Int32)) (by decide) dX0_init_13 ?_
  refine pf_RX0_15 rfl (rfl : shape 336 = some (.inl 2)) (by decide) dX0_init_14 ?_
  have hZ := Zf_I (k := 336) (j := 3) (v := (-1 : Int32)) (by decide) hZ
  refine E_aload_n (j := 0) (i := 0) (q := 0) rfl rfl dX0_init_17 ?_
  refine E_iconst (v := (5 : Int32)) (by decide) dX0_init_18 ?_
  refine E_newa (kc := 0) (ks := 0) (kk := 338) (t := 0) (N := 5) (atype := .int) (ty := .int) rfl (Or.inl ⟨rfl, rfl⟩) wC18 (by decide) (by decide) (by decide) rfl (rfl : idK 288 = 338) (rfl : ordK 338 = 288) (rfl : shape 338 = some (.inr (0, 5))) (fun j => Z0_a (Zf_at hZ (rfl : shape 338 = some (.inr (0, 5))) (by rw [(rfl : ordK 338 = 288)]; exact Nat.le_refl _)) j) dX0_init_19 ?_
  have hZ := Zf_up hZ
  rw [show 288 + 1 = 289 from rfl] at hZ
  show E l X_X0_init _ true 289 _ _ _ _ _ _
  refine pR_RX0_19 rfl rfl (rfl : shape 336 = some (.inl 2)) (by decide) dX0_init_21 ?_
  have hZ := Zf_R (k := 336) (j := 5) (v := some 338) (by decide) hZ
  exact E_vret (Or.inl rfl) rfl rfl dX0_init_24
set_option maxHeartbeats 8000000 in
set_option maxRecDepth 100000 in
theorem X0_Z {σ : Mem} (hZ : Zf 287 σ) : Zf 289 (X0_mem σ) := by
  have hZ := Zf_up hZ
  rw [show 287 + 1 = 288 from rfl] at hZ
  have hZ := Zf_R (k := 336) (j := 0) (v := some 337) (by decide) hZ
  have hZ := Zf_I (k := 336) (j := 3) (v := (-1 : Int32)) (by decide) hZ
  have hZ := Zf_up hZ
  rw [show 288 + 1 = 289 from rfl] at hZ
  have hZ := Zf_R (k := 336) (j := 5) (v := some 338) (by decide) hZ
  exact hZ
def X7_mem (σ : Mem) : Mem := (pR (pI (pI (pR (X0_mem (pR (X2_mem (pI (pR (X1_mem 32 (pR (pR (X5_mem σ) 320 0 (some 321)) 320 1 (some 0))) 320 2 (some 32)) 320 3 (0 : Int32))) 320 4 (some 334))) 320 5 (some 336)) 320 6 (0 : Int32)) 320 7 (0 : Int32)) 320 8 (some 339))
set_option maxHeartbeats 8000000 in
set_option maxRecDepth 100000 in
theorem T_X7_init {l : Launch} (hfl : l.stackTraces = false) (σ : Mem) (hZ : Zf 1 σ) : MetN l X_X7_init true 1 σ [.ref 320] (.inr none, 290, X7_mem σ) := by
  refine met_of_E rfl rfl (by decide +kernel) hfl rfl (Nat.le_of_ble_eq_true rfl) ?_
  show E l X_X7_init _ true 1 σ 289 2382 0 [(0, .ref 320)] []
  refine E_aload_n (j := 0) (i := 0) (q := 0) rfl rfl dX7_init_0 ?_
  refine E_objInit wC32 wC1 wC2 ⟨Nat.le_of_ble_eq_true rfl, Nat.le_of_ble_eq_true rfl⟩ (Nat.le_of_ble_eq_true rfl) dX7_init_1 ?_
  refine E_aload_n (j := 0) (i := 0) (q := 0) rfl rfl dX7_init_4 ?_
  refine E_newZ (kc := 288) (ks := 2368) (kk := 321) (ci := 7) (N := 14) tyX5 rfl rfl win_X5 tyX5_ok hft_X5 wC33 wC34 wT124 rfl (rfl : idK 1 = 321) (rfl : ordK 321 = 1) (rfl : shape 321 = some (.inl 7)) (Zf_at hZ (rfl : shape 321 = some (.inl 7)) (by rw [(rfl : ordK 321 = 1)]; exact Nat.le_refl _)) dX7_init_5 ?_
  have hZ := Zf_up hZ
  rw [show 1 + 1 = 2 from rfl] at hZ
  show E l X_X7_init _ true 2 _ _ _ _ _ _
  refine E_dup rfl dX7_init_8 ?_
  refine E_callI (kc := 249) (ks := 1930) (na := 0) (As := []) (S := [.ref 321, .ref 320]) (bk := 321) cwI_RX7_11 ⟨Nat.le_of_ble_eq_true rfl, Nat.le_of_ble_eq_true rfl⟩ (T_X5_init hfl _ hZ) rfl rfl rfl (Nat.le_of_ble_eq_true rfl) dX7_init_9 ?_
  have hZ := X5_Z hZ
  show E l X_X7_init _ true 41 _ _ _ _ _ _
  refine pR_RX7_12 rfl rfl (rfl : shape 320 = some (.inl 9)) (by decide) dX7_init_12 ?_
  have hZ := Zf_R (k := 320) (j := 0) (v := some 321) (by decide) hZ
  refine E_aload_n (j := 0) (i := 0) (q := 0) rfl rfl dX7_init_15 ?_
  refine E_aload_n (j := 0) (i := 0) (q := 0) rfl rfl dX7_init_16 ?_
  refine gf_RX7_12 (v := 321) rfl (rfl : shape 320 = some (.inl 9)) (by decide) (by simp [gR_I, gR_R, gR_X1, X5_mem]) dX7_init_17 ?_
  refine gf_RX7_16 (v := 0) rfl (rfl : shape 321 = some (.inl 7)) (by decide) (by simp [gR_I, gR_R, gR_X1, X5_mem]) dX7_init_20 ?_
  refine pR_RX7_20 rfl rfl (rfl : shape 320 = some (.inl 9)) (by decide) dX7_init_23 ?_
  have hZ := Zf_R (k := 320) (j := 1) (v := some 0) (by decide) hZ
  refine E_aload_n (j := 0) (i := 0) (q := 0) rfl rfl dX7_init_26 ?_
  refine E_newZ (kc := 248) (ks := 1921) (kk := 32) (ci := 3) (N := 9) tyX1 rfl rfl win_X1 tyX1_ok hft_X1 wC38 wC21 wT40 rfl (rfl : idK 41 = 32) (rfl : ordK 32 = 41) (rfl : shape 32 = some (.inl 3)) (Zf_at hZ (rfl : shape 32 = some (.inl 3)) (by rw [(rfl : ordK 32 = 41)]; exact Nat.le_refl _)) dX7_init_27 ?_
  have hZ := Zf_up hZ
  rw [show 41 + 1 = 42 from rfl] at hZ
  show E l X_X7_init _ true 42 _ _ _ _ _ _
  refine E_dup rfl dX7_init_30 ?_
  refine E_callI (kc := 222) (ks := 1722) (na := 0) (As := []) (S := [.ref 32, .ref 320]) (bk := 32) cwI_RX7_23 ⟨Nat.le_of_ble_eq_true rfl, Nat.le_of_ble_eq_true rfl⟩ (T_X1_init hfl 32 41 _ (by decide +kernel) hZ) rfl rfl rfl (Nat.le_of_ble_eq_true rfl) dX7_init_31 ?_
  have hZ := X1_Z (A := 32) (m := 41) (by decide +kernel) hZ
  show E l X_X7_init _ true 68 _ _ _ _ _ _
  refine pR_RX7_24 rfl rfl (rfl : shape 320 = some (.inl 9)) (by decide) dX7_init_34 ?_
  have hZ := Zf_R (k := 320) (j := 2) (v := some 32) (by decide) hZ
  refine E_aload_n (j := 0) (i := 0) (q := 0) rfl rfl dX7_init_37 ?_
  refine E_iconst (v := (0 : Int32)) (by decide) dX7_init_38 ?_
  refine pf_RX7_27 rfl (by decide) (rfl : shape 320 = some (.inl 9)) (by decide) dX7_init_39 ?_
  have hZ := Zf_I (k := 320) (j := 3) (v := (0 : Int32)) (by decide) hZ
  refine E_aload_n (j := 0) (i := 0) (q := 0) rfl rfl dX7_init_42 ?_
  refine E_newZ (kc := 221) (ks := 1719) (kk := 334) (ci := 4) (N := 3) tyX2 rfl rfl win_X2 tyX2_ok hft_X2 wC40 wC41 wT198 rfl (rfl : idK 68 = 334) (rfl : ordK 334 = 68) (rfl : shape 334 = some (.inl 4)) (Zf_at hZ (rfl : shape 334 = some (.inl 4)) (by rw [(rfl : ordK 334 = 68)]; exact Nat.le_refl _)) dX7_init_43 ?_
  have hZ := Zf_up hZ
  rw [show 68 + 1 = 69 from rfl] at hZ
  show E l X_X7_init _ true 69 _ _ _ _ _ _
  refine E_dup rfl dX7_init_46 ?_
  refine E_callI (kc := 4) (ks := 47) (na := 0) (As := []) (S := [.ref 334, .ref 320]) (bk := 334) cwI_RX7_33 ⟨Nat.le_of_ble_eq_true rfl, Nat.le_of_ble_eq_true rfl⟩ (T_X2_init hfl _ hZ) rfl rfl rfl (Nat.le_of_ble_eq_true rfl) dX7_init_47 ?_
  have hZ := X2_Z hZ
  show E l X_X7_init _ true 286 _ _ _ _ _ _
  refine pR_RX7_34 rfl rfl (rfl : shape 320 = some (.inl 9)) (by decide) dX7_init_50 ?_
  have hZ := Zf_R (k := 320) (j := 4) (v := some 334) (by decide) hZ
  refine E_aload_n (j := 0) (i := 0) (q := 0) rfl rfl dX7_init_53 ?_
  refine E_newZ (kc := 3) (ks := 41) (kk := 336) (ci := 2) (N := 6) tyX0 rfl rfl win_X0 tyX0_ok hft_X0 wC45 wC46 wT0 rfl (rfl : idK 286 = 336) (rfl : ordK 336 = 286) (rfl : shape 336 = some (.inl 2)) (Zf_at hZ (rfl : shape 336 = some (.inl 2)) (by rw [(rfl : ordK 336 = 286)]; exact Nat.le_refl _)) dX7_init_54 ?_
  have hZ := Zf_up hZ
  rw [show 286 + 1 = 287 from rfl] at hZ
  show E l X_X7_init _ true 287 _ _ _ _ _ _
  refine E_dup rfl dX7_init_57 ?_
  refine E_callI (kc := 1) (ks := 6) (na := 0) (As := []) (S := [.ref 336, .ref 320]) (bk := 336) cwI_RX7_40 ⟨Nat.le_of_ble_eq_true rfl, Nat.le_of_ble_eq_true rfl⟩ (T_X0_init hfl _ hZ) rfl rfl rfl (Nat.le_of_ble_eq_true rfl) dX7_init_58 ?_
  have hZ := X0_Z hZ
  show E l X_X7_init _ true 289 _ _ _ _ _ _
  refine pR_RX7_41 rfl rfl (rfl : shape 320 = some (.inl 9)) (by decide) dX7_init_61 ?_
  have hZ := Zf_R (k := 320) (j := 5) (v := some 336) (by decide) hZ
  refine E_aload_n (j := 0) (i := 0) (q := 0) rfl rfl dX7_init_64 ?_
  refine E_iconst (v := (0 : Int32)) (by decide) dX7_init_65 ?_
  refine pf_RX7_45 rfl (rfl : shape 320 = some (.inl 9)) (by decide) dX7_init_66 ?_
  have hZ := Zf_I (k := 320) (j := 6) (v := (0 : Int32)) (by decide) hZ
  refine E_aload_n (j := 0) (i := 0) (q := 0) rfl rfl dX7_init_69 ?_
  refine E_iconst (v := (0 : Int32)) (by decide) dX7_init_70 ?_
  refine pf_RX7_49 rfl (rfl : shape 320 = some (.inl 9)) (by decide) dX7_init_71 ?_
  have hZ := Zf_I (k := 320) (j := 7) (v := (0 : Int32)) (by decide) hZ
  refine E_aload_n (j := 0) (i := 0) (q := 0) rfl rfl dX7_init_74 ?_
  refine E_bipush (v := (6 : Int32)) (by decide) dX7_init_75 ?_
  refine E_newa (kc := 0) (ks := 0) (kk := 339) (t := 0) (N := 6) (atype := .int) (ty := .int) rfl (Or.inl ⟨rfl, rfl⟩) wC18 (by decide) (by decide) (by decide) rfl (rfl : idK 289 = 339) (rfl : ordK 339 = 289) (rfl : shape 339 = some (.inr (0, 6))) (fun j => Z0_a (Zf_at hZ (rfl : shape 339 = some (.inr (0, 6))) (by rw [(rfl : ordK 339 = 289)]; exact Nat.le_refl _)) j) dX7_init_77 ?_
  have hZ := Zf_up hZ
  rw [show 289 + 1 = 290 from rfl] at hZ
  show E l X_X7_init _ true 290 _ _ _ _ _ _
  refine pR_RX7_52 rfl rfl (rfl : shape 320 = some (.inl 9)) (by decide) dX7_init_79 ?_
  have hZ := Zf_R (k := 320) (j := 8) (v := some 339) (by decide) hZ
  exact E_vret (Or.inl rfl) rfl rfl dX7_init_82
set_option maxHeartbeats 8000000 in
set_option maxRecDepth 100000 in
theorem X7_Z {σ : Mem} (hZ : Zf 1 σ) : Zf 290 (X7_mem σ) := by
  have hZ := Zf_up hZ
  rw [show 1 + 1 = 2 from rfl] at hZ
  have hZ := X5_Z hZ
  have hZ := Zf_R (k := 320) (j := 0) (v := some 321) (by decide) hZ
  have hZ := Zf_R (k := 320) (j := 1) (v := some 0) (by decide) hZ
  have hZ := Zf_up hZ
  rw [show 41 + 1 = 42 from rfl] at hZ
  have hZ := X1_Z (A := 32) (m := 41) (by decide +kernel) hZ
  have hZ := Zf_R (k := 320) (j := 2) (v := some 32) (by decide) hZ
  have hZ := Zf_I (k := 320) (j := 3) (v := (0 : Int32)) (by decide) hZ
  have hZ := Zf_up hZ
  rw [show 68 + 1 = 69 from rfl] at hZ
  have hZ := X2_Z hZ
  have hZ := Zf_R (k := 320) (j := 4) (v := some 334) (by decide) hZ
  have hZ := Zf_up hZ
  rw [show 286 + 1 = 287 from rfl] at hZ
  have hZ := X0_Z hZ
  have hZ := Zf_R (k := 320) (j := 5) (v := some 336) (by decide) hZ
  have hZ := Zf_I (k := 320) (j := 6) (v := (0 : Int32)) (by decide) hZ
  have hZ := Zf_I (k := 320) (j := 7) (v := (0 : Int32)) (by decide) hZ
  have hZ := Zf_up hZ
  rw [show 289 + 1 = 290 from rfl] at hZ
  have hZ := Zf_R (k := 320) (j := 8) (v := some 339) (by decide) hZ
  exact hZ
def X8_mem (σ : Mem) : Mem := (pI (pI (pI (pI (pI (pR (pR (pR (pR (pR (pR (pR (pR (pR σ 340 1 (some 341)) 340 4 (some 342)) 340 5 (some 343)) 340 6 (some 344)) 340 7 (some 345)) 340 12 (some 346)) 340 13 (some 347)) 340 16 (some 348)) 340 17 (some 349)) 340 21 (-1 : Int32)) 341 4 (1 : Int32)) 341 5 (16 : Int32)) 341 6 (16 : Int32)) 341 7 (16 : Int32))
set_option maxHeartbeats 8000000 in
set_option maxRecDepth 100000 in
theorem T_X8_init {l : Launch} (hfl : l.stackTraces = false) (σ : Mem) (hZ : Zf 291 σ) : MetN l X_X8_init true 291 σ [.ref 340] (.inr none, 300, X8_mem σ) := by
  refine met_of_E rfl rfl (by decide +kernel) hfl rfl (Nat.le_of_ble_eq_true rfl) ?_
  show E l X_X8_init _ true 291 σ 9 1796 0 [(0, .ref 340)] []
  refine E_aload_n (j := 0) (i := 0) (q := 0) rfl rfl dX8_init_0 ?_
  refine E_objInit wC50 wC1 wC2 ⟨Nat.le_of_ble_eq_true rfl, Nat.le_of_ble_eq_true rfl⟩ (Nat.le_of_ble_eq_true rfl) dX8_init_1 ?_
  refine E_aload_n (j := 0) (i := 0) (q := 0) rfl rfl dX8_init_4 ?_
  refine E_sipush (v := (1700 : Int32)) (by decide) dX8_init_5 ?_
  refine E_newa (kc := 8) (ks := 96) (kk := 341) (t := 0) (N := 1700) (atype := .int) (ty := .int) rfl (Or.inl ⟨rfl, rfl⟩) wC18 (by decide) (by decide) (by decide) rfl (rfl : idK 291 = 341) (rfl : ordK 341 = 291) (rfl : shape 341 = some (.inr (0, 1700))) (fun j => Z0_a (Zf_at hZ (rfl : shape 341 = some (.inr (0, 1700))) (by rw [(rfl : ordK 341 = 291)]; exact Nat.le_refl _)) j) dX8_init_8 ?_
  have hZ := Zf_up hZ
  rw [show 291 + 1 = 292 from rfl] at hZ
  show E l X_X8_init _ true 292 _ _ _ _ _ _
  refine pR_RX8_9 rfl rfl (rfl : shape 340 = some (.inl 10)) (by decide) dX8_init_10 ?_
  have hZ := Zf_R (k := 340) (j := 1) (v := some 341) (by decide) hZ
  refine E_aload_n (j := 0) (i := 0) (q := 0) rfl rfl dX8_init_13 ?_
  refine E_bipush (v := (13 : Int32)) (by decide) dX8_init_14 ?_
  refine E_newa (kc := 7) (ks := 83) (kk := 342) (t := 0) (N := 13) (atype := .int) (ty := .int) rfl (Or.inl ⟨rfl, rfl⟩) wC18 (by decide) (by decide) (by decide) rfl (rfl : idK 292 = 342) (rfl : ordK 342 = 292) (rfl : shape 342 = some (.inr (0, 13))) (fun j => Z0_a (Zf_at hZ (rfl : shape 342 = some (.inr (0, 13))) (by rw [(rfl : ordK 342 = 292)]; exact Nat.le_refl _)) j) dX8_init_16 ?_
  have hZ := Zf_up hZ
  rw [show 292 + 1 = 293 from rfl] at hZ
  show E l X_X8_init _ true 293 _ _ _ _ _ _
  refine pR_RX8_13 rfl rfl (rfl : shape 340 = some (.inl 10)) (by decide) dX8_init_18 ?_
  have hZ := Zf_R (k := 340) (j := 4) (v := some 342) (by decide) hZ
  refine E_aload_n (j := 0) (i := 0) (q := 0) rfl rfl dX8_init_21 ?_
  refine E_bipush (v := (13 : Int32)) (by decide) dX8_init_22 ?_
  refine E_newa (kc := 6) (ks := 70) (kk := 343) (t := 0) (N := 13) (atype := .int) (ty := .int) rfl (Or.inl ⟨rfl, rfl⟩) wC18 (by decide) (by decide) (by decide) rfl (rfl : idK 293 = 343) (rfl : ordK 343 = 293) (rfl : shape 343 = some (.inr (0, 13))) (fun j => Z0_a (Zf_at hZ (rfl : shape 343 = some (.inr (0, 13))) (by rw [(rfl : ordK 343 = 293)]; exact Nat.le_refl _)) j) dX8_init_24 ?_
  have hZ := Zf_up hZ
  rw [show 293 + 1 = 294 from rfl] at hZ
  show E l X_X8_init _ true 294 _ _ _ _ _ _
  refine pR_RX8_16 rfl rfl (rfl : shape 340 = some (.inl 10)) (by decide) dX8_init_26 ?_
  have hZ := Zf_R (k := 340) (j := 5) (v := some 343) (by decide) hZ
  refine E_aload_n (j := 0) (i := 0) (q := 0) rfl rfl dX8_init_29 ?_
  refine E_bipush (v := (13 : Int32)) (by decide) dX8_init_30 ?_
  refine E_newa (kc := 5) (ks := 57) (kk := 344) (t := 0) (N := 13) (atype := .int) (ty := .int) rfl (Or.inl ⟨rfl, rfl⟩) wC18 (by decide) (by decide) (by decide) rfl (rfl : idK 294 = 344) (rfl : ordK 344 = 294) (rfl : shape 344 = some (.inr (0, 13))) (fun j => Z0_a (Zf_at hZ (rfl : shape 344 = some (.inr (0, 13))) (by rw [(rfl : ordK 344 = 294)]; exact Nat.le_refl _)) j) dX8_init_32 ?_
  have hZ := Zf_up hZ
  rw [show 294 + 1 = 295 from rfl] at hZ
  show E l X_X8_init _ true 295 _ _ _ _ _ _
  refine pR_RX8_19 rfl rfl (rfl : shape 340 = some (.inl 10)) (by decide) dX8_init_34 ?_
  have hZ := Zf_R (k := 340) (j := 6) (v := some 344) (by decide) hZ
  refine E_aload_n (j := 0) (i := 0) (q := 0) rfl rfl dX8_init_37 ?_
  refine E_bipush (v := (13 : Int32)) (by decide) dX8_init_38 ?_
  refine E_newa (kc := 4) (ks := 44) (kk := 345) (t := 0) (N := 13) (atype := .int) (ty := .int) rfl (Or.inl ⟨rfl, rfl⟩) wC18 (by decide) (by decide) (by decide) rfl (rfl : idK 295 = 345) (rfl : ordK 345 = 295) (rfl : shape 345 = some (.inr (0, 13))) (fun j => Z0_a (Zf_at hZ (rfl : shape 345 = some (.inr (0, 13))) (by rw [(rfl : ordK 345 = 295)]; exact Nat.le_refl _)) j) dX8_init_40 ?_
  have hZ := Zf_up hZ
  rw [show 295 + 1 = 296 from rfl] at hZ
  show E l X_X8_init _ true 296 _ _ _ _ _ _
  refine pR_RX8_22 rfl rfl (rfl : shape 340 = some (.inl 10)) (by decide) dX8_init_42 ?_
  have hZ := Zf_R (k := 340) (j := 7) (v := some 345) (by decide) hZ
  refine E_aload_n (j := 0) (i := 0) (q := 0) rfl rfl dX8_init_45 ?_
  refine E_iconst (v := (2 : Int32)) (by decide) dX8_init_46 ?_
  refine E_newa (kc := 3) (ks := 42) (kk := 346) (t := 0) (N := 2) (atype := .int) (ty := .int) rfl (Or.inl ⟨rfl, rfl⟩) wC18 (by decide) (by decide) (by decide) rfl (rfl : idK 296 = 346) (rfl : ordK 346 = 296) (rfl : shape 346 = some (.inr (0, 2))) (fun j => Z0_a (Zf_at hZ (rfl : shape 346 = some (.inr (0, 2))) (by rw [(rfl : ordK 346 = 296)]; exact Nat.le_refl _)) j) dX8_init_47 ?_
  have hZ := Zf_up hZ
  rw [show 296 + 1 = 297 from rfl] at hZ
  show E l X_X8_init _ true 297 _ _ _ _ _ _
  refine pR_RX8_25 rfl rfl (rfl : shape 340 = some (.inl 10)) (by decide) dX8_init_49 ?_
  have hZ := Zf_R (k := 340) (j := 12) (v := some 346) (by decide) hZ
  refine E_aload_n (j := 0) (i := 0) (q := 0) rfl rfl dX8_init_52 ?_
  refine E_bipush (v := (6 : Int32)) (by decide) dX8_init_53 ?_
  refine E_newa (kc := 2) (ks := 36) (kk := 347) (t := 0) (N := 6) (atype := .int) (ty := .int) rfl (Or.inl ⟨rfl, rfl⟩) wC18 (by decide) (by decide) (by decide) rfl (rfl : idK 297 = 347) (rfl : ordK 347 = 297) (rfl : shape 347 = some (.inr (0, 6))) (fun j => Z0_a (Zf_at hZ (rfl : shape 347 = some (.inr (0, 6))) (by rw [(rfl : ordK 347 = 297)]; exact Nat.le_refl _)) j) dX8_init_55 ?_
  have hZ := Zf_up hZ
  rw [show 297 + 1 = 298 from rfl] at hZ
  show E l X_X8_init _ true 298 _ _ _ _ _ _
  refine pR_RX8_28 rfl rfl (rfl : shape 340 = some (.inl 10)) (by decide) dX8_init_57 ?_
  have hZ := Zf_R (k := 340) (j := 13) (v := some 347) (by decide) hZ
  refine E_aload_n (j := 0) (i := 0) (q := 0) rfl rfl dX8_init_60 ?_
  refine E_bipush (v := (6 : Int32)) (by decide) dX8_init_61 ?_
  refine E_newa (kc := 1) (ks := 30) (kk := 348) (t := 0) (N := 6) (atype := .int) (ty := .int) rfl (Or.inl ⟨rfl, rfl⟩) wC18 (by decide) (by decide) (by decide) rfl (rfl : idK 298 = 348) (rfl : ordK 348 = 298) (rfl : shape 348 = some (.inr (0, 6))) (fun j => Z0_a (Zf_at hZ (rfl : shape 348 = some (.inr (0, 6))) (by rw [(rfl : ordK 348 = 298)]; exact Nat.le_refl _)) j) dX8_init_63 ?_
  have hZ := Zf_up hZ
  rw [show 298 + 1 = 299 from rfl] at hZ
  show E l X_X8_init _ true 299 _ _ _ _ _ _
  refine pR_RX8_31 rfl rfl (rfl : shape 340 = some (.inl 10)) (by decide) dX8_init_65 ?_
  have hZ := Zf_R (k := 340) (j := 16) (v := some 348) (by decide) hZ
  refine E_aload_n (j := 0) (i := 0) (q := 0) rfl rfl dX8_init_68 ?_
  refine E_bipush (v := (30 : Int32)) (by decide) dX8_init_69 ?_
  refine E_newa (kc := 0) (ks := 0) (kk := 349) (t := 2) (N := 30) (atype := .char) (ty := .char) rfl (Or.inr (Or.inr (Or.inl ⟨rfl, rfl⟩))) wC31 (by decide) (by decide) (by decide) rfl (rfl : idK 299 = 349) (rfl : ordK 349 = 299) (rfl : shape 349 = some (.inr (2, 30))) (fun j => Z0_a (Zf_at hZ (rfl : shape 349 = some (.inr (2, 30))) (by rw [(rfl : ordK 349 = 299)]; exact Nat.le_refl _)) j) dX8_init_71 ?_
  have hZ := Zf_up hZ
  rw [show 299 + 1 = 300 from rfl] at hZ
  show E l X_X8_init _ true 300 _ _ _ _ _ _
  refine pR_RX8_34 rfl rfl (rfl : shape 340 = some (.inl 10)) (by decide) dX8_init_73 ?_
  have hZ := Zf_R (k := 340) (j := 17) (v := some 349) (by decide) hZ
  refine E_aload_n (j := 0) (i := 0) (q := 0) rfl rfl dX8_init_76 ?_
  refine E_iconst (v := (-1 : Int32)) (by decide) dX8_init_77 ?_
  refine pf_RX8_38 rfl (rfl : shape 340 = some (.inl 10)) (by decide) dX8_init_78 ?_
  have hZ := Zf_I (k := 340) (j := 21) (v := (-1 : Int32)) (by decide) hZ
  refine E_aload_n (j := 0) (i := 0) (q := 0) rfl rfl dX8_init_81 ?_
  refine gf_RX8_9 (v := 341) rfl (rfl : shape 340 = some (.inl 10)) (by decide) (by simp [gR_I, gR_R, gR_X1]) dX8_init_82 ?_
  refine E_iconst (v := (4 : Int32)) (by decide) dX8_init_85 ?_
  refine E_iconst (v := (1 : Int32)) (by decide) dX8_init_86 ?_
  refine E_iast _ (rfl : shape 341 = some (.inr (0, 1700))) (by decide) (by decide : inR (4 : Int32) 1700) dX8_init_87 ?_
  have hZ := Zf_I (k := 341) (j := 4) (v := (1 : Int32)) (by decide) hZ
  rw [(by decide : Int32.toNatClampNeg (4 : Int32) = 4)]
  refine E_iconst (v := (0 : Int32)) (by decide) dX8_init_88 ?_
  refine E_istore_n (j := 1) (i := 1) (L' := [(1, .int (0 : Int32)), (0, .ref 340)]) rfl (Nat.le_of_ble_eq_true rfl) rfl dX8_init_89 ?_
  refine E_iload_n (j := 1) (i := 1) (q := 0) rfl rfl dX8_init_90 ?_
  refine E_iconst (v := (3 : Int32)) (by decide) dX8_init_91 ?_
  refine E_icmp_ge (tgt := 111) rfl dX8_init_92 (fun h9 => absurd h9 (by decide)) (fun _ => ?_)
  refine E_aload_n (j := 0) (i := 0) (q := 1) rfl rfl dX8_init_95 ?_
  refine gf_RX8_9 (v := 341) rfl (rfl : shape 340 = some (.inl 10)) (by decide) (by simp [gR_I, gR_R, gR_X1]) dX8_init_96 ?_
  refine E_iconst (v := (5 : Int32)) (by decide) dX8_init_99 ?_
  refine E_iload_n (j := 1) (i := 1) (q := 0) rfl rfl dX8_init_100 ?_
  refine E_iadd dX8_init_101 ?_
  rw [(by decide : (5 : Int32) + (0 : Int32) = (5 : Int32))]
  refine E_bipush (v := (16 : Int32)) (by decide) dX8_init_102 ?_
  refine E_iast _ (rfl : shape 341 = some (.inr (0, 1700))) (by decide) (by decide : inR (5 : Int32) 1700) dX8_init_104 ?_
  have hZ := Zf_I (k := 341) (j := 5) (v := (16 : Int32)) (by decide) hZ
  rw [(by decide : Int32.toNatClampNeg (5 : Int32) = 5)]
  refine E_iinc (q := 0) (v := (1 : Int32)) (L' := [(1, .int (1 : Int32)), (0, .ref 340)]) rfl (by decide) (Nat.le_of_ble_eq_true rfl) rfl dX8_init_105 ?_
  refine E_goto (tgt := 90) rfl dX8_init_108 ?_
  refine E_iload_n (j := 1) (i := 1) (q := 0) rfl rfl dX8_init_90 ?_
  refine E_iconst (v := (3 : Int32)) (by decide) dX8_init_91 ?_
  refine E_icmp_ge (tgt := 111) rfl dX8_init_92 (fun h9 => absurd h9 (by decide)) (fun _ => ?_)
  refine E_aload_n (j := 0) (i := 0) (q := 1) rfl rfl dX8_init_95 ?_
  refine gf_RX8_9 (v := 341) rfl (rfl : shape 340 = some (.inl 10)) (by decide) (by simp [gR_I, gR_R, gR_X1]) dX8_init_96 ?_
  refine E_iconst (v := (5 : Int32)) (by decide) dX8_init_99 ?_
  refine E_iload_n (j := 1) (i := 1) (q := 0) rfl rfl dX8_init_100 ?_
  refine E_iadd dX8_init_101 ?_
  rw [(by decide : (5 : Int32) + (1 : Int32) = (6 : Int32))]
  refine E_bipush (v := (16 : Int32)) (by decide) dX8_init_102 ?_
  refine E_iast _ (rfl : shape 341 = some (.inr (0, 1700))) (by decide) (by decide : inR (6 : Int32) 1700) dX8_init_104 ?_
  have hZ := Zf_I (k := 341) (j := 6) (v := (16 : Int32)) (by decide) hZ
  rw [(by decide : Int32.toNatClampNeg (6 : Int32) = 6)]
  refine E_iinc (q := 0) (v := (2 : Int32)) (L' := [(1, .int (2 : Int32)), (0, .ref 340)]) rfl (by decide) (Nat.le_of_ble_eq_true rfl) rfl dX8_init_105 ?_
  refine E_goto (tgt := 90) rfl dX8_init_108 ?_
  refine E_iload_n (j := 1) (i := 1) (q := 0) rfl rfl dX8_init_90 ?_
  refine E_iconst (v := (3 : Int32)) (by decide) dX8_init_91 ?_
  refine E_icmp_ge (tgt := 111) rfl dX8_init_92 (fun h9 => absurd h9 (by decide)) (fun _ => ?_)
  refine E_aload_n (j := 0) (i := 0) (q := 1) rfl rfl dX8_init_95 ?_
  refine gf_RX8_9 (v := 341) rfl (rfl : shape 340 = some (.inl 10)) (by decide) (by simp [gR_I, gR_R, gR_X1]) dX8_init_96 ?_
  refine E_iconst (v := (5 : Int32)) (by decide) dX8_init_99 ?_
  refine E_iload_n (j := 1) (i := 1) (q := 0) rfl rfl dX8_init_100 ?_
  refine E_iadd dX8_init_101 ?_
  rw [(by decide : (5 : Int32) + (2 : Int32) = (7 : Int32))]
  refine E_bipush (v := (16 : Int32)) (by decide) dX8_init_102 ?_
  refine E_iast _ (rfl : shape 341 = some (.inr (0, 1700))) (by decide) (by decide : inR (7 : Int32) 1700) dX8_init_104 ?_
  have hZ := Zf_I (k := 341) (j := 7) (v := (16 : Int32)) (by decide) hZ
  rw [(by decide : Int32.toNatClampNeg (7 : Int32) = 7)]
  refine E_iinc (q := 0) (v := (3 : Int32)) (L' := [(1, .int (3 : Int32)), (0, .ref 340)]) rfl (by decide) (Nat.le_of_ble_eq_true rfl) rfl dX8_init_105 ?_
  refine E_goto (tgt := 90) rfl dX8_init_108 ?_
  refine E_iload_n (j := 1) (i := 1) (q := 0) rfl rfl dX8_init_90 ?_
  refine E_iconst (v := (3 : Int32)) (by decide) dX8_init_91 ?_
  refine E_icmp_ge (tgt := 111) rfl dX8_init_92 (fun _ => ?_) (fun h9 => absurd (by decide) h9)
  exact E_vret (Or.inl rfl) rfl rfl dX8_init_111
set_option maxHeartbeats 8000000 in
set_option maxRecDepth 100000 in
theorem X8_Z {σ : Mem} (hZ : Zf 291 σ) : Zf 300 (X8_mem σ) := by
  have hZ := Zf_up hZ
  rw [show 291 + 1 = 292 from rfl] at hZ
  have hZ := Zf_R (k := 340) (j := 1) (v := some 341) (by decide) hZ
  have hZ := Zf_up hZ
  rw [show 292 + 1 = 293 from rfl] at hZ
  have hZ := Zf_R (k := 340) (j := 4) (v := some 342) (by decide) hZ
  have hZ := Zf_up hZ
  rw [show 293 + 1 = 294 from rfl] at hZ
  have hZ := Zf_R (k := 340) (j := 5) (v := some 343) (by decide) hZ
  have hZ := Zf_up hZ
  rw [show 294 + 1 = 295 from rfl] at hZ
  have hZ := Zf_R (k := 340) (j := 6) (v := some 344) (by decide) hZ
  have hZ := Zf_up hZ
  rw [show 295 + 1 = 296 from rfl] at hZ
  have hZ := Zf_R (k := 340) (j := 7) (v := some 345) (by decide) hZ
  have hZ := Zf_up hZ
  rw [show 296 + 1 = 297 from rfl] at hZ
  have hZ := Zf_R (k := 340) (j := 12) (v := some 346) (by decide) hZ
  have hZ := Zf_up hZ
  rw [show 297 + 1 = 298 from rfl] at hZ
  have hZ := Zf_R (k := 340) (j := 13) (v := some 347) (by decide) hZ
  have hZ := Zf_up hZ
  rw [show 298 + 1 = 299 from rfl] at hZ
  have hZ := Zf_R (k := 340) (j := 16) (v := some 348) (by decide) hZ
  have hZ := Zf_up hZ
  rw [show 299 + 1 = 300 from rfl] at hZ
  have hZ := Zf_R (k := 340) (j := 17) (v := some 349) (by decide) hZ
  have hZ := Zf_I (k := 340) (j := 21) (v := (-1 : Int32)) (by decide) hZ
  have hZ := Zf_I (k := 341) (j := 4) (v := (1 : Int32)) (by decide) hZ
  have hZ := Zf_I (k := 341) (j := 5) (v := (16 : Int32)) (by decide) hZ
  have hZ := Zf_I (k := 341) (j := 6) (v := (16 : Int32)) (by decide) hZ
  have hZ := Zf_I (k := 341) (j := 7) (v := (16 : Int32)) (by decide) hZ
  exact hZ
