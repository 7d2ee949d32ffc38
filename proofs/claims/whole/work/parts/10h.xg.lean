def gT (v : Int64) (g : Int) (st : Int × Int) (k : Nat) : Int × Int := if bt v k = true then (if 0 ≤ st.2 ∧ 1 ≤ (k : Int) - st.2 - 1 ∧ (k : Int) - st.2 - 1 ≤ g then st.1 + 1 else st.1, (k : Int)) else st
theorem X8_gapsL {fl : Nat} {s : Mem} (hs : RO s) {v : Int64} {g : Int} (hg : iI s 341 4 = g) (hg0 : 0 ≤ g) (hg1 : g ≤ 5) : ∀ (m i : Nat) (n l : Int) (k : Nat), i + m = 60 → m < k → 0 ≤ n → n ≤ i → -1 ≤ l → l < i →
    B_X8_gaps_9 fl k 340 v (oI (-1)) (oI n) (oI l) (oI i) s = some (oI (itr (gT v g) m i (n, l)).1, s) := by
  intro m
  induction m with
  | zero =>
    intro i n l k h hk h1 h2 h3 h4
    obtain ⟨k, rfl⟩ : ∃ k', k = k' + 1 := ⟨k - 1, by omega⟩
    unfold B_X8_gaps_9
    simp (disch := omega) only [bd_some, nx_eq, xb_r, xb_l, xc_r, xc_l, oI_lit, oI_nI, oI_add, oI_sub, oI_mul, oI_neg, gI_oI, ldA_I, ldA_L, ldO_I, ldO_L, oB_z, oB_o, gd_oB, lgc0n, oI_litN, ← Int.natCast_add, ← Int.natCast_mul, Int.toNat_natCast, if_true, if_false, oI_le, oI_lt, oI_eq, oI_nat, oI_inR, gd_t, bit_sz, pI_iI]
    rw [if_pos (by omega)]
    rfl
  | succ m ih =>
    intro i n l k h hk h1 h2 h3 h4
    obtain ⟨k, rfl⟩ : ∃ k', k = k' + 1 := ⟨k - 1, by omega⟩
    unfold B_X8_gaps_9 B_X8_gaps_73 B_X8_gaps_94 B_X8_gaps_100 B_X8_gaps_104
    show _ = some (oI (itr (gT v g) m (i + 1) (gT v g (n, l) i)).1, s)
    cases hbt : bt v i with
    | false =>
      rw [show gT v g (n, l) i = (n, l) by unfold gT; rw [hbt]; rfl]
      simp (disch := omega) only [bd_some, nx_eq, xb_r, xb_l, xc_r, xc_l, oI_lit, oI_nI, oI_add, oI_sub, oI_mul, oI_neg, gI_oI, ldA_I, ldA_L, ldO_I, ldO_L, oB_z, oB_o, gd_oB, lgc0n, oI_litN, ← Int.natCast_add, ← Int.natCast_mul, Int.toNat_natCast, if_true, if_false, oI_le, oI_lt, oI_eq, oI_nat, oI_inR, gd_t, bit_sz, pI_iI]
      rw [if_neg (by omega), if_pos hbt]
      exact ih (i + 1) n l k (by omega) (by omega) h1 (by omega) h3 (by omega)
    | true =>
      have hnb : ¬ bt v i = false := fun z => by rw [z] at hbt; cases hbt
      by_cases hl : l < 0
      · rw [show gT v g (n, l) i = (n, (i : Int)) by unfold gT; rw [if_pos hbt, if_neg (by dsimp only; omega)]]
        simp (disch := omega) only [bd_some, nx_eq, xb_r, xb_l, xc_r, xc_l, oI_lit, oI_nI, oI_add, oI_sub, oI_mul, oI_neg, gI_oI, ldA_I, ldA_L, ldO_I, ldO_L, oB_z, oB_o, gd_oB, lgc0n, oI_litN, ← Int.natCast_add, ← Int.natCast_mul, Int.toNat_natCast, if_true, if_false, oI_le, oI_lt, oI_eq, oI_nat, oI_inR, gd_t, bit_sz, pI_iI]
        rw [if_neg (by omega), if_neg hnb, if_pos (by omega)]
        exact ih (i + 1) n i k (by omega) (by omega) h1 (by omega) (by omega) (by omega)
      · simp (disch := omega) only [bd_some, nx_eq, xb_r, xb_l, xc_r, xc_l, oI_lit, oI_nI, oI_add, oI_sub, oI_mul, oI_neg, gI_oI, ldA_I, ldA_L, ldO_I, ldO_L, oB_z, oB_o, gd_oB, lgc0n, oI_litN, ← Int.natCast_add, ← Int.natCast_mul, Int.toNat_natCast, if_true, if_false, oI_le, oI_lt, oI_eq, oI_nat, oI_inR, gd_t, bit_sz, pI_iI, ld_340_1 hs, hg, X8_in]
        rw [if_neg (by omega), if_neg hnb, if_neg (by omega)]
        by_cases hc : 1 ≤ (i : Int) - l - 1 ∧ (i : Int) - l - 1 ≤ g
        · rw [show gT v g (n, l) i = (n + 1, (i : Int)) by unfold gT; rw [if_pos hbt, if_pos (by dsimp only; omega)]]
          rw [if_neg (by omega), if_neg (by omega), if_neg (by omega)]
          exact ih (i + 1) (n + 1) i k (by omega) (by omega) (by omega) (by omega) (by omega) (by omega)
        · rw [show gT v g (n, l) i = (n, (i : Int)) by unfold gT; rw [if_pos hbt, if_neg (by dsimp only; omega)]]
          rw [if_pos (by omega)]
          exact ih (i + 1) n i k (by omega) (by omega) h1 (by omega) (by omega) (by omega)
def gN (v : Int64) (g : Int) : Int := (itr (gT v g) 60 0 (0, -1)).1
theorem X8_gapsOf {fl : Nat} (hfl : 1000 ≤ fl) {s : Mem} (hs : RO s) (v : Int64) (hg0 : 0 ≤ iI s 341 4) (hg1 : iI s 341 4 ≤ 5) : F_X8_gapsOf fl 340 v s = some (oI (gN v (iI s 341 4)), s) := by
  unfold F_X8_gapsOf F_X8_gaps
  have := X8_gapsL (fl := fl) hs (v := v) rfl hg0 hg1 60 0 0 (-1) fl rfl (by omega) (by omega) (by omega) (by omega) (by omega)
  rw [show (-1 : Int32) = oI (-1) from rfl, show (0 : Int32) = oI 0 from rfl, show oI 0 = oI ((0 : Nat) : Int) from rfl] at *
  rw [this]
  rfl
