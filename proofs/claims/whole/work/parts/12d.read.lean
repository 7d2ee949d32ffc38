theorem ldPair {fl : Nat} (hfl : 1000 ≤ fl) {s : Mem} (hI : Inv s) {w : Int} (h1 : -2147483648 ≤ w) (h2 : w < 2147483648) : ∃ M, LDs s M w ∧ vF M ∧ LT s M (iI M 342) w ∧ (∀ q, q ≤ 12 → -1 ≤ iI M 342 q ∧ iI M 342 q < iI s 341 0) ∧
    ∀ s1, RO s1 → (∀ k, iI s1 341 k = iI s 341 k) → ∃ M1, F_X8_loads fl 340 (oI w) s1 = some M1 ∧ FI s1 M1 (fun k j => 342 ≤ k ∧ k ≤ 345 ∧ j ≤ 12) ∧ AG M M1 ∧ (∀ q, q ≤ 12 → iI M1 342 q = iI M 342 q) ∧ RO M1 ∧ vF M1 ∧ vT M1 ∧ (∀ k, iI M1 341 k = iI s 341 k) := by
  obtain ⟨hs, -, ⟨hv, hc⟩, -⟩ := hI
  obtain ⟨M, g1, g2, g3⟩ := X8_loadsS (fl := fl) hfl hs hv h1 h2
  refine ⟨M, g3, LDs_vF hv g3, LDs_LT hv g3, fun q hq => by have := LDs_pl hv g3 hq; omega, fun s1 hs1 e => ?_⟩
  have hv1 : VR (iI s1 341) := VR_cg (fun k _ => e k) hv
  obtain ⟨M1, f1, f2, f3⟩ := X8_loadsS (fl := fl) hfl hs1 hv1 h1 h2
  have ag := LDs_AG g3 f3 e
  have hF1 := LDs_vF hv1 f3
  exact ⟨M1, f1, f2, ag.1, ag.2, FI_RO f2 hs1, hF1, vT_of hF1 (fun q hq => by have := LDs_pl hv1 f3 hq; omega), fun k => by rw [f3.1, e]⟩
theorem FI_lo {s M : Mem} (h : FI s M (fun k j => 342 ≤ k ∧ k ≤ 345 ∧ j ≤ 12)) : FI s M scC := FI_mono h (by unfold scC; omega)
theorem X7_pitch_5 {fl : Nat} (hfl : 1000 ≤ fl) {s M : Mem} (hs : RO s) (hc : CR s 0 (iI s 341)) (hv : VR (iI s 341)) (hL : LT s M (iI M 342) (-1)) (hF : vF M) {j : Nat} (hj : (j : Int) < iI s 341 0) : F_X7_pitch fl 320 (oI j) (oI (5 : Nat)) s = some (.inr (oI (cn (moT M (iI M 342) j (-1)) 60 : Nat)), s) := by
  have bn := VRn hv
  unfold VN at bn
  unfold F_X7_pitch
  refine (hdP hs hc hj (by omega) _).trans ?_
  rw [if_neg (by decide), if_neg (by decide), if_neg (by decide), if_neg (by decide), if_neg (by decide), if_pos (by decide), ld_320_1 hs, bd_some, show (-1 : Int32) = oI (-1) from rfl, X1_busyNights hfl hs hc hv hL hF (by omega) (by omega) (by omega) (by omega), bd_some, bc_cn, bd_some, nz_cn (nz_moT hF _ _ _)]
theorem X7_pitch_6 {fl : Nat} (hfl : 1000 ≤ fl) {s M : Mem} (hs : RO s) (hc : CR s 0 (iI s 341)) (hv : VR (iI s 341)) (hL : LT s M (iI M 342) (-1)) (hF : vF M) {j : Nat} (hj : (j : Int) < iI s 341 0) : F_X7_pitch fl 320 (oI j) (oI (6 : Nat)) s = some (.inr (oI (gN (moT M (iI M 342) j (-1)) (iI s 341 4))), s) := by
  have bn := VRn hv
  unfold VN at bn
  have eg4 : iI s 0 7 = ((iI s 341 4).toNat : Nat) := by rw [c_gp hc]; omega
  have e4 : (((iI s 341 4).toNat : Nat) : Int) = iI s 341 4 := by omega
  unfold F_X7_pitch
  refine (hdP hs hc hj (by omega) _).trans ?_
  rw [if_neg (by decide), if_neg (by decide), if_neg (by decide), if_neg (by decide), if_neg (by decide), if_neg (by decide), if_pos (by decide), ld_320_1 hs, bd_some, bd_some, show (-1 : Int32) = oI (-1) from rfl, X1_busyNights hfl hs hc hv hL hF (by omega) (by omega) (by omega) (by omega), bd_some, X1_countGaps hfl (nz_moT hF _ _ _) eg4 (by omega), bd_some, e4]
theorem ifB_t {p : Prop} [Decidable p] {α : Type} {x y : α} (h : p) : (if oB p = 0 then x else y) = y := if_neg (fun q => (oB_z p).mp q h)
theorem ifB_f {p : Prop} [Decidable p] {α : Type} {x y : α} (h : ¬ p) : (if oB p = 0 then x else y) = x := if_pos ((oB_z p).mpr h)
theorem th_0 (s : Mem) : gI (pI s 340 0 0) 340 0 = 0 := rfl
theorem th_n (s : Mem) {c : Int32} (h : c ≠ 0) : ¬ gI (pI s 340 0 c) 340 0 = 0 := by
  rw [gI_p, if_pos ⟨rfl, rfl⟩]
  exact h
theorem th_z (s : Mem) : iI (pI s 340 0 0) 340 0 = 0 := rfl
theorem m1_o : (-1 : Int32) = oI (-1) := rfl
theorem n0_o : (0 : Int32) = oI ((0 : Nat) : Int) := rfl
theorem LM_pitch {fl : Nat} (hfl : 1000 ≤ fl) {s : Mem} (hI : Inv s) {a b : Int} (a1 : -2147483648 ≤ a) (a2 : a < 2147483648) (b1 : -2147483648 ≤ b) (b2 : b < 2147483648) : Ans (F_L_pitch fl 320 (oI a) (oI b) 350) (F_X8_pitch fl 340 (oI a) (oI b)) s := by
  have hI' := hI
  obtain ⟨hs, -, ⟨hv, hc⟩, -⟩ := hI'
  have bn := VRn hv
  unfold VN at bn
  by_cases ha : 0 ≤ a ∧ a < iI s 341 0
  · obtain ⟨j, rfl⟩ : ∃ j : Nat, a = j := ⟨a.toNat, by omega⟩
    by_cases hb : 0 ≤ b ∧ b ≤ 4
    · obtain ⟨f, rfl⟩ : ∃ f : Nat, b = f := ⟨b.toNat, by omega⟩
      have q1 : F_X7_pitch fl 320 (oI j) (oI f) s = some (.inr (oI (iI s 341 (8 + 5 * j + f))), s) := by
        unfold F_X7_pitch
        refine (hdP hs hc (j := j) (by omega) (by omega) _).trans ?_
        have : f = 0 ∨ f = 1 ∨ f = 2 ∨ f = 3 ∨ f = 4 := by omega
        rcases this with rfl | rfl | rfl | rfl | rfl
        · rw [if_pos (by decide), gI_oI, c_p hc (by omega) (by omega)]
        · rw [if_neg (by decide), if_pos (by decide), gI_oI, c_p hc (by omega) (by omega)]
        · rw [if_neg (by decide), if_neg (by decide), if_pos (by decide), gI_oI, c_p hc (by omega) (by omega)]
        · rw [if_neg (by decide), if_neg (by decide), if_neg (by decide), if_pos (by decide), gI_oI, c_p hc (by omega) (by omega)]
        · rw [if_neg (by decide), if_neg (by decide), if_neg (by decide), if_neg (by decide), if_pos (by decide), gI_oI, c_p hc (by omega) (by omega)]
      refine Ans_w hI (L_pitch_v q1) fun s1 hI1 F => ?_
      have hs1 := hI1.1
      have hm : RO (pI s1 340 0 (oI (0 : Nat))) := hs1
      have e0 := sc41 F 0
      refine ⟨_, ?_, FI_th s1 (oI (0 : Nat)), th_e s1 0 (by omega)⟩
      unfold F_X8_pitch B_X8_pitch_28
      simp (disch := omega) only [bd_some, nx_eq, xb_r, xb_l, xc_r, xc_l, oI_lit, oI_nI, oI_add, oI_sub, oI_mul, oI_neg, gI_oI, ldA_I, ldA_L, ldO_I, ldO_L, oB_z, oB_o, gd_oB, lgc0n, oI_litN, ← Int.natCast_add, ← Int.natCast_mul, Int.toNat_natCast, if_true, if_false, oI_le, oI_lt, oI_eq, oI_nat, oI_inR, gd_t, X8_in, X8_isPitch hs1, X8_ofPitch hm, iI_pe, iI_pn, sc41 F]
      rw [if_neg (by omega), if_neg (by omega), if_neg (by omega)]
    · by_cases hb2 : b = 5 ∨ b = 6
      · obtain ⟨M, -, hF, hL, -, hN⟩ := ldPair hfl hI (w := -1) (by omega) (by omega)
        have ref : ∀ s1, Inv s1 → FG s s1 scC → ∃ s2, F_X8_pitch fl 340 (oI j) (oI b) s1 = some (oI (if b = 5 then ((cn (moT M (iI M 342) j (-1)) 60 : Nat) : Int) else gN (moT M (iI M 342) j (-1)) (iI s 341 4)), s2) ∧ FI s1 s2 scC ∧ iI s2 340 0 = 0 := by
          intro s1 hI1 F
          have hs1 := hI1.1
          have e0 := sc41 F 0
          obtain ⟨M1, n1, n2, n3, n4, n5, n6, n7, n8⟩ := hN (pI s1 340 0 0) hs1 (fun k => by rw [iI_pn (Or.inl (by omega)), sc41 F])
          refine ⟨M1, ?_, FI_trans (FI_th s1 0) (FI_lo n2), by rw [n2.2 340 0 (by omega)]; exact th_z s1⟩
          have hmo := X8_maskOf (fl := fl) hfl n5 (p := j) (by omega) (by omega)
          rw [mo_T, moT_cg n3 n4] at hmo
          unfold F_X8_pitch
          rw [X8_isPitch hs1 (by omega) (by omega) (by omega), bd_some, ifB_t (by omega), n0_o, show (6 : Int32) = oI ((6 : Nat) : Int) from rfl, X8_in (by omega) (by omega) (by omega) (by omega) (by omega) (by omega), bd_some, ← n0_o, ifB_t (by omega)]
          unfold B_X8_pitch_28
          rcases hb2 with rfl | rfl
          · rw [nx_eq, if_pos (th_0 s1), if_pos (by decide), m1_o, n1, bd_some, if_pos (by decide), hmo, bd_some, X8_bits hfl, bd_some, if_pos rfl]
          · rw [nx_eq, if_pos (th_0 s1), if_pos (by decide), m1_o, n1, bd_some, if_neg (by decide), hmo, bd_some, X8_gapsOf hfl n5 _ (by rw [n8]; omega) (by rw [n8]; omega), bd_some, n8, if_neg (by omega)]
        rcases hb2 with rfl | rfl
        · exact Ans_w hI (L_pitch_v (X7_pitch_5 hfl hs hc hv hL hF (by omega))) ref
        · exact Ans_w hI (L_pitch_v (X7_pitch_6 hfl hs hc hv hL hF (by omega))) ref
      · have hk : ∀ x : Int32, (∃ k : Nat, k < 7 ∧ x = oI k) → ¬ oI b = x := fun x ⟨k, hk, hx⟩ h => by
          rw [hx, oI_eq b1 b2 (by omega) (by omega)] at h
          omega
        have q1 : F_X7_pitch fl 320 (oI j) (oI b) s = some (.inl 1, s) := by
          unfold F_X7_pitch
          refine (hdP hs hc (j := j) (by omega) (by omega) _).trans ?_
          rw [if_neg (hk 0 ⟨0, by omega, rfl⟩), if_neg (hk 1 ⟨1, by omega, rfl⟩), if_neg (hk 2 ⟨2, by omega, rfl⟩), if_neg (hk 3 ⟨3, by omega, rfl⟩), if_neg (hk 4 ⟨4, by omega, rfl⟩), if_neg (hk 5 ⟨5, by omega, rfl⟩), if_neg (hk 6 ⟨6, by omega, rfl⟩)]
        refine Ans_e hI (c := 2) (v := 0) (by omega) (by omega) (L_pitch_2 q1) ?_
        unfold F_X8_pitch
        rw [X8_isPitch hs (by omega) (by omega) (by omega), bd_some, ifB_t (by omega), n0_o, show (6 : Int32) = oI ((6 : Nat) : Int) from rfl, X8_in (by omega) (by omega) (by omega) (by omega) (by omega) (by omega), bd_some, ← n0_o, ifB_f (by omega)]
        unfold B_X8_pitch_28
        rw [nx_eq, if_neg (th_n s (by decide))] <;> rfl
  · have q1 : F_X7_pitch fl 320 (oI a) (oI b) s = some (.inl 3, s) := by
      unfold F_X7_pitch
      rw [rqP_n hs hc (by omega) (by omega) (by omega)]
      rfl
    refine Ans_e hI (c := 1) (v := 0) (by omega) (by omega) (L_pitch_1 q1) ?_
    unfold F_X8_pitch
    rw [X8_isPitch hs (by omega) (by omega) (by omega), bd_some, ifB_f (by omega)]
    unfold B_X8_pitch_28
    rw [nx_eq, if_neg (th_n s (by decide))] <;> rfl
