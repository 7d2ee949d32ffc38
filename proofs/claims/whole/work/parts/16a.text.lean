theorem nar_bd (v : Int32) : 0 ≤ (vp_nar .char v).toInt ∧ (vp_nar .char v).toInt < 65536 := by
  have e : vp_nar .char v = (Int32.toUInt32 v % 65536).toInt32 := rfl
  have h : (Int32.toUInt32 v % 65536).toNat < 65536 := by
    rw [UInt32.toNat_mod]
    exact Nat.mod_lt _ (by decide)
  generalize Int32.toUInt32 v % 65536 = u at e h
  have e2 : u.toInt32.toInt = u.toBitVec.toInt := rfl
  have h2 : u.toBitVec.toNat < 65536 := h
  rw [e, e2, BitVec.toInt_eq_toNat_of_lt (by omega)]
  omega
theorem nar_id (v : Int32) : ∃ a : Int, 0 ≤ a ∧ a < 65536 ∧ vp_nar .char v = oI a := ⟨(vp_nar .char v).toInt, (nar_bd v).1, (nar_bd v).2, (Int32.ofInt_toInt _).symm⟩
theorem LM_append {fl : Nat} {s : Mem} (hI : Inv s) (v : Int32) : ∃ k s1 s2, F_L_append fl 320 v s = some (k, s1) ∧ F_X8_append fl 340 v s1 = some s2 ∧ gI s2 340 0 = k ∧ Inv s2 := by
  have hI' := hI
  obtain ⟨hs, h1, h2, ⟨c, m, h3⟩, h4, h5, h6, ⟨⟨t1, t2, t3⟩, t4, t5⟩⟩ := hI'
  obtain ⟨a, a1, a2, ea⟩ := nar_id v
  obtain ⟨t, ht⟩ : ∃ t : Nat, iI s 340 18 = t := ⟨(iI s 340 18).toNat, by omega⟩
  have g1 : gI s 336 1 = oI (t : Int) := by rw [gI_oI, t1, ht]
  by_cases h30 : t < 30
  · obtain ⟨m1, e1, F1, y1⟩ := stI s 337 t (v := a) (by omega) (by omega)
    obtain ⟨m2, e2, F2, y2⟩ := stI m1 336 1 (v := ((t + 1 : Nat) : Int)) (by omega) (by omega)
    have tt : (oI (t : Int)).toNatClampNeg = t := by rw [oI_nat (by omega) (by omega)]; rfl
    have q1 : F_X7_append fl 320 v s = some (.inr (), m2) := by
      unfold F_X7_append F_X0_add
      rw [ld_320_5 hs, bd_some, ld_336_0 hs, bd_some]
      dsimp only
      rw [g1, if_pos (show oI (t : Int) < nI 30 from by rw [show nI 30 = oI 30 from rfl, oI_lt (by omega) (by omega) (by omega) (by omega)]; omega), bd_some, gd_t ((oI_inR (by omega) (by omega)).mpr (by omega)), nx_eq, ea, tt, e1, nx_eq, show gI m1 336 1 + 1 = oI ((t + 1 : Nat) : Int) from by rw [gI_oI, FG_I F1 (by omega), t1, ht, oI_lit, oI_add]; rfl, e2, bd_some]
      rfl
    obtain ⟨n0, z0, G0, w0⟩ := stI m2 340 0 (v := 0) (by omega) (by omega)
    obtain ⟨n1, z1, G1, w1⟩ := stI n0 349 t (v := a) (by omega) (by omega)
    obtain ⟨n2, z2, G2, w2⟩ := stI n1 340 18 (v := ((t + 1 : Nat) : Int)) (by omega) (by omega)
    have F : FG s m2 (fun k j => k = 337 ∨ k = 336 ∧ j = 1) := FG_trans (FG_mono F1 (by omega)) (FG_mono F2 (by omega))
    have G : FG m2 n2 (fun k j => k = 340 ∧ (j = 0 ∨ j = 18) ∨ k = 349) := FG_trans (FG_mono G0 (by omega)) (FG_trans (FG_mono G1 (by omega)) (FG_mono G2 (by omega)))
    have A : FG s n2 (fun k j => k = 337 ∨ k = 336 ∧ j = 1 ∨ k = 340 ∧ (j = 0 ∨ j = 18) ∨ k = 349) := FG_trans (FG_mono F (by omega)) (FG_mono G (by omega))
    have hm2 := FG_RO F hs
    have hn0 := FG_RO G0 hm2
    refine ⟨oI (0 : Nat), m2, n2, L_append_v q1, ?_, ?_, FG_RO A hs, Cst_FG A (by omega) h1, Cmp_FG A (by omega) h2, ⟨c, m, Hist_FG A (by omega) h3⟩, Snp_FG A (by omega) h4, Rsn_FG A (by omega) h5, Lat_FG A (by omega) h6, ⟨?_, ?_, ?_⟩, ?_, fun k k1 k2 => ?_⟩
    · have g18 : gI m2 340 18 = oI (t : Int) := by rw [gI_oI, FG_I F (by omega), ht]
      have g18' : gI n0 340 18 = oI (t : Int) := by rw [gI_oI, FG_I G0 (by omega), FG_I F (by omega), ht]
      have g18'' : gI n1 340 18 = oI (t : Int) := by rw [gI_oI, FG_I G1 (by omega), FG_I G0 (by omega), FG_I F (by omega), ht]
      unfold F_X8_append B_X8_append_15
      rw [g18, if_neg (by rw [show (30 : Int32) = oI 30 from rfl, oI_eq (by omega) (by omega) (by omega) (by omega)]; omega), nx_eq, if_pos (th_0 _), show pI m2 340 0 0 = n0 from z0, ld_340_17 hn0, bd_some]
      dsimp only
      rw [g18', gd_t ((oI_inR (by omega) (by omega)).mpr (by omega)), nx_eq, ea, tt, z1, nx_eq, g18'', show oI (t : Int) + 1 = oI ((t + 1 : Nat) : Int) from by rw [oI_lit, oI_add]; rfl, z2]
    · rw [gI_oI, FG_I G2 (by omega), FG_I G1 (by omega), w0]; rfl
    · rw [w2, FG_I G (by omega), y2]
    · rw [w2]; omega
    · rw [w2]; omega
    · rw [FG_I A (by omega), FG_I A (by omega)]; exact t4
    · rw [w2] at k2
      by_cases hk : k = t
      · subst hk
        rw [FG_I G (by omega), FG_I F2 (by omega), y1, FG_I G2 (by omega), w1]
        exact ⟨rfl, a1, a2⟩
      · rw [FG_I G (by omega), FG_I F2 (by omega), FG_I F1 (by omega), FG_I G2 (by omega), FG_I G1 (by omega), FG_I G0 (by omega), FG_I F (by omega)]
        exact t5 k k1 (by omega)
  · have q1 : F_X7_append fl 320 v s = some (.inl 2, s) := by
      unfold F_X7_append F_X0_add
      rw [ld_320_5 hs, bd_some, ld_336_0 hs, bd_some]
      dsimp only
      rw [g1, if_neg (show ¬ oI (t : Int) < nI 30 from by rw [show nI 30 = oI 30 from rfl, oI_lt (by omega) (by omega) (by omega) (by omega)]; omega), bd_some]
      rfl
    refine ⟨oI (1 : Nat), s, pI s 340 0 (oI (1 : Nat)), L_append_1 q1, ?_, by rw [gI_oI, iI_pe (by omega) (by omega)], Inv_sc (FG_p _ _ _ _ (by unfold scC; omega)) hI⟩
    unfold F_X8_append B_X8_append_15
    rw [show gI s 340 18 = oI (t : Int) from by rw [gI_oI, ht], if_pos (by rw [show (30 : Int32) = oI 30 from rfl, oI_eq (by omega) (by omega) (by omega) (by omega)]; omega), nx_eq, if_neg (th_n s (by decide))] <;> rfl
