theorem X7_freeL {fl : Nat} {s : Mem} {v : Int64} {n : Int} (hn : 1 ≤ n) (hn2 : n ≤ 14) : ∀ (m i k : Nat), (i : Int) + m = 61 - n → m < k → 
    ∃ r : Nat, B_X7_freeFrom_3 fl s k v (oI n) (oI i) = some (oI r) ∧ ((i ≤ r ∧ (r : Int) + n ≤ 60 ∧ v &&& mI r n = 0 ∧ ∀ j, i ≤ j → j < r → v &&& mI j n ≠ 0) ∨ (r = 60 ∧ ∀ j : Nat, i ≤ j → (j : Int) + n ≤ 60 → v &&& mI j n ≠ 0)) := by
  intro m
  induction m with
  | zero =>
    intro i k h hk
    obtain ⟨k, rfl⟩ : ∃ k', k = k' + 1 := ⟨k - 1, by omega⟩
    refine ⟨60, ?_, Or.inr ⟨rfl, fun j h1 h2 => by omega⟩⟩
    unfold B_X7_freeFrom_3
    simp (disch := omega) only [bd_some, nx_eq, xb_r, xb_l, xc_r, xc_l, oI_lit, oI_nI, oI_add, oI_sub, oI_mul, oI_neg, gI_oI, ldA_I, ldA_L, ldO_I, ldO_L, oB_z, oB_o, gd_oB, lgc0n, oI_litN, ← Int.natCast_add, ← Int.natCast_mul, Int.toNat_natCast, if_true, if_false, oI_le, oI_lt, oI_eq, oI_nat, oI_inR, gd_t]
    rw [if_pos (by omega)]
  | succ m ih =>
    intro i k h hk
    obtain ⟨k, rfl⟩ : ∃ k', k = k' + 1 := ⟨k - 1, by omega⟩
    unfold B_X7_freeFrom_3
    simp (disch := omega) only [bd_some, nx_eq, xb_r, xb_l, xc_r, xc_l, oI_lit, oI_nI, oI_add, oI_sub, oI_mul, oI_neg, gI_oI, ldA_I, ldA_L, ldO_I, ldO_L, oB_z, oB_o, gd_oB, lgc0n, oI_litN, ← Int.natCast_add, ← Int.natCast_mul, Int.toNat_natCast, if_true, if_false, oI_le, oI_lt, oI_eq, oI_nat, oI_inR, gd_t, X7_stayOf]
    rw [if_neg (by omega)]
    by_cases hz : v &&& mI i n = 0
    · rw [if_pos hz]
      exact ⟨i, rfl, Or.inl ⟨Nat.le_refl _, by omega, hz, fun j h1 h2 => by omega⟩⟩
    · rw [if_neg hz]
      obtain ⟨r, g1, g2⟩ := ih (i + 1) k (by omega) (by omega)
      refine ⟨r, g1, ?_⟩
      rcases g2 with ⟨c1, c2, c3, c4⟩ | ⟨c1, c2⟩
      · refine Or.inl ⟨by omega, c2, c3, fun j h1 h2 => ?_⟩
        by_cases hj : j = i
        · subst hj; exact hz
        · exact c4 j (by omega) h2
      · refine Or.inr ⟨c1, fun j h1 h2 => ?_⟩
        by_cases hj : j = i
        · subst hj; exact hz
        · exact c2 j (by omega) h2
theorem X8_freeL {fl : Nat} {s : Mem} {v : Int64} {n : Int} (hn : 1 ≤ n) (hn2 : n ≤ 14) : ∀ (m i k : Nat), (i : Int) + m = 61 - n → m < k → 
    ∃ r : Nat, (B_X8_firstFree_62 fl k 340 (oI n) v (oI i) s = some (oI r, s) ∧ i ≤ r ∧ (r : Int) + n ≤ 60 ∧ v &&& mI r n = 0 ∧ ∀ j, i ≤ j → j < r → v &&& mI j n ≠ 0) ∨ (B_X8_firstFree_62 fl k 340 (oI n) v (oI i) s = some (0, pI s 340 0 3) ∧ ∀ j : Nat, i ≤ j → (j : Int) + n ≤ 60 → v &&& mI j n ≠ 0) := by
  intro m
  induction m with
  | zero =>
    intro i k h hk
    obtain ⟨k, rfl⟩ : ∃ k', k = k' + 1 := ⟨k - 1, by omega⟩
    refine ⟨60, Or.inr ⟨?_, fun j h1 h2 => by omega⟩⟩
    unfold B_X8_firstFree_62
    rw [if_pos (by rw [oI_lit, oI_add, oI_lt (by decide) (by decide) (by omega) (by omega)]; show (60 : Int) < _; omega), nx_eq]
  | succ m ih =>
    intro i k h hk
    obtain ⟨k, rfl⟩ : ∃ k', k = k' + 1 := ⟨k - 1, by omega⟩
    unfold B_X8_firstFree_62
    rw [if_neg (by rw [oI_lit, oI_add, oI_lt (by decide) (by decide) (by omega) (by omega)]; show ¬ (60 : Int) < _; omega), X8_mask, bd_some, show oI (i : Int) + (1 : Int32) = oI ((i + 1 : Nat) : Int) from by rw [oI_lit, oI_add]; rfl]
    by_cases hz : v &&& mI i n = 0
    · rw [if_pos ((lgc0 _).mpr hz)]
      exact ⟨i, Or.inl ⟨rfl, Nat.le_refl _, by omega, hz, fun j h1 h2 => by omega⟩⟩
    · rw [if_neg (fun q => hz ((lgc0 _).mp q))]
      obtain ⟨r, g2⟩ := ih (i + 1) k (by omega) (by omega)
      refine ⟨r, ?_⟩
      rcases g2 with ⟨c0, c1, c2, c3, c4⟩ | ⟨c0, c2⟩
      · refine Or.inl ⟨c0, by omega, c2, c3, fun j h1 h2 => ?_⟩
        by_cases hj : j = i
        · subst hj; exact hz
        · exact c4 j (by omega) h2
      · refine Or.inr ⟨c0, fun j h1 h2 => ?_⟩
        by_cases hj : j = i
        · subst hj; exact hz
        · exact c2 j (by omega) h2
theorem LM_firstFree {fl : Nat} (hfl : 1000 ≤ fl) {s : Mem} (hI : Inv s) {a b c : Int} (a1 : -2147483648 ≤ a) (a2 : a < 2147483648) (b1 : -2147483648 ≤ b) (b2 : b < 2147483648) (c1 : -2147483648 ≤ c) (c2 : c < 2147483648) : Ans (F_L_firstFree fl 320 (oI a) (oI b) (oI c) 350) (F_X8_firstFree fl 340 (oI a) (oI b) (oI c)) s := by
  have hI' := hI
  obtain ⟨hs, -, ⟨hv, hc⟩, -⟩ := hI'
  have bn := VRn hv
  unfold VN at bn
  have e14 : (14 : Int32) = oI ((14 : Nat) : Int) := rfl
  have e1 : (1 : Int32) = oI ((1 : Nat) : Int) := rfl
  by_cases ha : 0 ≤ a ∧ a < iI s 341 0
  · by_cases hb : 0 ≤ b ∧ b < 60
    · by_cases hcc : 1 ≤ c ∧ c ≤ 14
      · obtain ⟨i, rfl⟩ : ∃ i : Nat, b = i := ⟨b.toNat, by omega⟩
        obtain ⟨M, hS, hF, hL, -, hN⟩ := ldPair hfl hI (w := -1) (by omega) (by omega)
        have cls : ∃ r : Nat, F_X7_freeFrom fl (moT M (iI M 342) a (-1)) (oI i) (oI c) s = some (oI r) ∧ ((i ≤ r ∧ (r : Int) + c ≤ 60 ∧ moT M (iI M 342) a (-1) &&& mI r c = 0 ∧ ∀ j, i ≤ j → j < r → moT M (iI M 342) a (-1) &&& mI j c ≠ 0) ∨ (r = 60 ∧ ∀ j : Nat, i ≤ j → (j : Int) + c ≤ 60 → moT M (iI M 342) a (-1) &&& mI j c ≠ 0)) := by
          unfold F_X7_freeFrom
          by_cases hi : (i : Int) ≤ 61 - c
          · exact X7_freeL hcc.1 hcc.2 (61 - c - i).toNat i fl (by omega) (by omega)
          · refine ⟨60, ?_, Or.inr ⟨rfl, fun j h1 h2 => by omega⟩⟩
            obtain ⟨k, rfl⟩ : ∃ k', fl = k' + 1 := ⟨fl - 1, by omega⟩
            unfold B_X7_freeFrom_3
            simp (disch := omega) only [bd_some, nx_eq, xb_r, xb_l, xc_r, xc_l, oI_lit, oI_nI, oI_add, oI_sub, oI_mul, oI_neg, gI_oI, ldA_I, ldA_L, ldO_I, ldO_L, oB_z, oB_o, gd_oB, lgc0n, oI_litN, ← Int.natCast_add, ← Int.natCast_mul, Int.toNat_natCast, if_true, if_false, oI_le, oI_lt, oI_eq, oI_nat, oI_inR, gd_t]
            rw [if_pos (by omega)]
        obtain ⟨r, g1, g2⟩ := cls
        have q0 : F_X7_firstFree fl 320 (oI a) (oI i) (oI c) s = if oI (r : Int) < (60 : Int32) then some (.inr (oI r), s) else some (.inl 6, s) := by
          unfold F_X7_firstFree
          rw [rqP_y hs hc (by omega) (by omega) ha, bd_some, xb_r, X7_isNight (by omega) (by omega), bd_some, ifB_t hb, e1, e14, X7_isWithin (by omega) (by omega) (by omega) (by omega) (by omega) (by omega), bd_some, ifB_t (by omega), ld_320_1 hs, bd_some, ← e1, m1_o, X1_busyNights hfl hs hc hv hL hF (by omega) (by omega) (by omega) (by omega), bd_some, g1, bd_some]
        have hr : oI (r : Int) < (60 : Int32) ↔ r < 60 := by
          rw [oI_lit, oI_lt (by omega) (by rcases g2 with g | g <;> omega) (by decide) (by decide)]
          show (r : Int) < 60 ↔ _
          omega
        have ref : ∀ s1, Inv s1 → FG s s1 scC → ∃ M1, FI (pI s1 340 0 0) M1 (fun k j => 342 ≤ k ∧ k ≤ 345 ∧ j ≤ 12) ∧ F_X8_firstFree fl 340 (oI a) (oI i) (oI c) s1 = B_X8_firstFree_62 fl fl 340 (oI c) (moT M (iI M 342) a (-1)) (oI i) M1 := by
          intro s1 hI1 F
          have hs1 := hI1.1
          have e0 := sc41 F 0
          obtain ⟨M1, n1, n2, n3, n4, n5, n6, n7, n8⟩ := hN (pI s1 340 0 0) hs1 (fun k => by rw [iI_pn (Or.inl (by omega)), sc41 F])
          refine ⟨M1, n2, ?_⟩
          have hmo := X8_maskOf (fl := fl) hfl n5 (p := a) (by omega) (by omega)
          rw [mo_T, moT_cg n3 n4] at hmo
          unfold F_X8_firstFree
          rw [X8_isPitch hs1 (by omega) (by omega) (by omega), bd_some, ifB_t (by omega), X8_isNight (by omega) (by omega), bd_some, ifB_t hb, e1, e14, X8_in (by omega) (by omega) (by omega) (by omega) (by omega) (by omega), bd_some, ifB_t (by omega)]
          unfold B_X8_firstFree_35
          rw [nx_eq, if_pos (th_0 s1), m1_o, n1, bd_some, hmo, bd_some]
        have refL : ∀ M1, ∃ r' : Nat, (B_X8_firstFree_62 fl fl 340 (oI c) (moT M (iI M 342) a (-1)) (oI i) M1 = some (oI r', M1) ∧ i ≤ r' ∧ (r' : Int) + c ≤ 60 ∧ moT M (iI M 342) a (-1) &&& mI r' c = 0 ∧ ∀ j, i ≤ j → j < r' → moT M (iI M 342) a (-1) &&& mI j c ≠ 0) ∨ (B_X8_firstFree_62 fl fl 340 (oI c) (moT M (iI M 342) a (-1)) (oI i) M1 = some (0, pI M1 340 0 3) ∧ ∀ j : Nat, i ≤ j → (j : Int) + c ≤ 60 → moT M (iI M 342) a (-1) &&& mI j c ≠ 0) := by
          intro M1
          by_cases hi : (i : Int) ≤ 61 - c
          · exact X8_freeL hcc.1 hcc.2 (61 - c - i).toNat i fl (by omega) (by omega)
          · refine ⟨60, Or.inr ⟨?_, fun j h1 h2 => by omega⟩⟩
            obtain ⟨k, rfl⟩ : ∃ k', fl = k' + 1 := ⟨fl - 1, by omega⟩
            unfold B_X8_firstFree_62
            rw [if_pos (by rw [oI_lit, oI_add, oI_lt (by decide) (by decide) (by omega) (by omega)]; show (60 : Int) < _; omega), nx_eq]
        rcases g2 with ⟨d1, d2, d3, d4⟩ | ⟨d1, d2⟩
        · rw [if_pos (hr.mpr (by omega))] at q0
          refine Ans_w hI (L_firstFree_v q0) fun s1 hI1 F => ?_
          obtain ⟨M1, n2, f1⟩ := ref s1 hI1 F
          obtain ⟨r', f2⟩ := refL M1
          rcases f2 with ⟨x0, x1, x2, x3, x4⟩ | ⟨x0, x2⟩
          · refine ⟨M1, ?_, FI_trans (FI_th s1 0) (FI_lo n2), by rw [n2.2 340 0 (by omega)]; exact th_z s1⟩
            have : r' = r := by
              rcases Nat.lt_trichotomy r r' with h | h | h
              · exact absurd d3 (x4 r d1 h)
              · omega
              · exact absurd x3 (d4 r' x1 h)
            rw [f1, x0, this]
          · exact absurd d3 (x2 r d1 d2)
        · rw [if_neg (fun q => by have := hr.mp q; omega)] at q0
          obtain ⟨M1, n2, f1⟩ := ref s hI (FG_refl s _)
          obtain ⟨r', f2⟩ := refL M1
          rcases f2 with ⟨x0, x1, x2, x3, x4⟩ | ⟨x0, x2⟩
          · exact absurd x3 (d2 r' x1 x2)
          · refine Ans_x hI (c := 3) (by omega) (by omega) (L_firstFree_3 q0) (f1.trans x0) (FI_trans (FI_th s 0) (FI_trans (FI_lo n2) (FI_th M1 3))) rfl
      · have q1 : F_X7_firstFree fl 320 (oI a) (oI b) (oI c) s = some (.inl 1, s) := by
          unfold F_X7_firstFree
          rw [rqP_y hs hc (by omega) (by omega) ha, bd_some, xb_r, X7_isNight (by omega) (by omega), bd_some, ifB_t hb, e1, e14, X7_isWithin (by omega) (by omega) (by omega) (by omega) (by omega) (by omega), bd_some, ifB_f (by omega)]
          rfl
        refine Ans_e hI (c := 2) (v := 0) (by omega) (by omega) (L_firstFree_2 q1) ?_
        unfold F_X8_firstFree
        rw [X8_isPitch hs (by omega) (by omega) (by omega), bd_some, ifB_t (by omega), X8_isNight (by omega) (by omega), bd_some, ifB_t hb, e1, e14, X8_in (by omega) (by omega) (by omega) (by omega) (by omega) (by omega), bd_some, ifB_f (by omega)]
        unfold B_X8_firstFree_34 B_X8_firstFree_35
        rw [nx_eq, if_neg (th_n s (by decide))] <;> rfl
    · have q1 : F_X7_firstFree fl 320 (oI a) (oI b) (oI c) s = some (.inl 1, s) := by
        unfold F_X7_firstFree
        rw [rqP_y hs hc (by omega) (by omega) ha, bd_some, xb_r, X7_isNight (by omega) (by omega), bd_some, ifB_f hb]
        rfl
      refine Ans_e hI (c := 2) (v := 0) (by omega) (by omega) (L_firstFree_2 q1) ?_
      unfold F_X8_firstFree
      rw [X8_isPitch hs (by omega) (by omega) (by omega), bd_some, ifB_t (by omega), X8_isNight (by omega) (by omega), bd_some, ifB_f hb]
      unfold B_X8_firstFree_34 B_X8_firstFree_35
      rw [nx_eq, if_neg (th_n s (by decide))] <;> rfl
  · have q1 : F_X7_firstFree fl 320 (oI a) (oI b) (oI c) s = some (.inl 3, s) := by
      unfold F_X7_firstFree
      rw [rqP_n hs hc (by omega) (by omega) (by omega)]
      rfl
    refine Ans_e hI (c := 1) (v := 0) (by omega) (by omega) (L_firstFree_1 q1) ?_
    unfold F_X8_firstFree
    rw [X8_isPitch hs (by omega) (by omega) (by omega), bd_some, ifB_f (by omega)]
    unfold B_X8_firstFree_35
    rw [nx_eq, if_neg (th_n s (by decide))] <;> rfl
theorem LM_power {fl : Nat} (hfl : 1000 ≤ fl) {s : Mem} (hI : Inv s) {a b : Int} (a1 : -2147483648 ≤ a) (a2 : a < 2147483648) (b1 : -2147483648 ≤ b) (b2 : b < 2147483648) : Ans (F_L_power fl 320 (oI a) (oI b) 350) (F_X8_power fl 340 (oI a) (oI b)) s := by
  have hI' := hI
  obtain ⟨hs, -, ⟨hv, hc⟩, -⟩ := hI'
  by_cases ha : 0 ≤ a ∧ a < 3
  · by_cases hb : 0 ≤ b ∧ b < 60
    · obtain ⟨M, hS, hF, hL, -, hN⟩ := ldPair hfl hI (w := -1) (by omega) (by omega)
      have q1 : F_X7_power fl 320 (oI a) (oI b) s = some (.inr (oI (pwT M (iI M 342) a b)), s) := by
        unfold F_X7_power
        rw [rqC_y (by omega) (by omega) ha, bd_some, xb_r, rqN_y (by omega) (by omega) hb, bd_some, xb_r, ld_320_1 hs, bd_some, m1_o, X1_powerUsed hfl hs hc hv hL (by omega) (by omega) (by omega) (by omega) (by omega) (by omega), bd_some]
      refine Ans_w hI (L_power_v q1) fun s1 hI1 F => ?_
      have hs1 := hI1.1
      obtain ⟨M1, n1, n2, n3, n4, n5, n6, n7, n8⟩ := hN (pI s1 340 0 0) hs1 (fun k => by rw [iI_pn (Or.inl (by omega)), sc41 F])
      refine ⟨M1, ?_, FI_trans (FI_th s1 0) (FI_lo n2), by rw [n2.2 340 0 (by omega)]; exact th_z s1⟩
      have hpw := X8_powerAt (fl := fl) hfl n5 n7 (c := a) (n := b) (by omega) (by omega) (by omega) (by omega)
      rw [pw_T, pwT_cg n3 n4] at hpw
      unfold F_X8_power
      rw [X8_isCircuit (by omega) (by omega), bd_some, ifB_t ha, X8_isNight (by omega) (by omega), bd_some, ifB_t hb]
      unfold B_X8_power_20
      rw [nx_eq, if_pos (th_0 s1), m1_o, n1, bd_some, hpw, bd_some]
    · have q1 : F_X7_power fl 320 (oI a) (oI b) s = some (.inl 3, s) := by
        unfold F_X7_power
        rw [rqC_y (by omega) (by omega) ha, bd_some, xb_r, rqN_n (by omega) (by omega) hb]
        rfl
      refine Ans_e hI (c := 1) (v := 0) (by omega) (by omega) (L_power_1 q1) ?_
      unfold F_X8_power
      rw [X8_isCircuit (by omega) (by omega), bd_some, ifB_t ha, X8_isNight (by omega) (by omega), bd_some, ifB_f hb]
      unfold B_X8_power_19 B_X8_power_20
      rw [nx_eq, if_neg (th_n s (by decide))] <;> rfl
  · have q1 : F_X7_power fl 320 (oI a) (oI b) s = some (.inl 3, s) := by
      unfold F_X7_power
      rw [rqC_n (by omega) (by omega) ha]
      rfl
    refine Ans_e hI (c := 1) (v := 0) (by omega) (by omega) (L_power_1 q1) ?_
    unfold F_X8_power
    rw [X8_isCircuit (by omega) (by omega), bd_some, ifB_f ha]
    unfold B_X8_power_19 B_X8_power_20
    rw [nx_eq, if_neg (th_n s (by decide))] <;> rfl
-- the peak
def pkS (h : Nat → Int) (st : Int × Int) (n : Nat) : Int × Int := if st.1 < h n then (h n, (n : Int)) else st
theorem pk_rel (h : Nat → Int) : ∀ (m i : Nat) (a b : Int × Int), a.1 = b.1 → 0 ≤ a.1 → (a.1 = 0 ∧ a.2 = 60 ∧ b.2 = 0 ∨ 0 < a.1 ∧ a.2 = b.2 ∧ 0 ≤ a.2 ∧ a.2 < 60) → i + m ≤ 60 → (itr (pkS h) m i a).1 = (itr (pkS h) m i b).1 ∧ 0 ≤ (itr (pkS h) m i a).1 ∧ ((itr (pkS h) m i a).1 = 0 ∧ (itr (pkS h) m i a).2 = 60 ∧ (itr (pkS h) m i b).2 = 0 ∨ 0 < (itr (pkS h) m i a).1 ∧ (itr (pkS h) m i a).2 = (itr (pkS h) m i b).2 ∧ 0 ≤ (itr (pkS h) m i a).2 ∧ (itr (pkS h) m i a).2 < 60)
  | 0, _, _, _, h1, h2, h3, _ => ⟨h1, h2, h3⟩
  | m + 1, i, a, b, h1, h2, h3, h4 => by
    refine pk_rel h m (i + 1) (pkS h a i) (pkS h b i) ?_ ?_ ?_ (by omega)
    · unfold pkS
      rw [← h1]
      split
      · rfl
      · exact h1
    · unfold pkS
      split
      · dsimp only; omega
      · exact h2
    · unfold pkS
      rw [← h1]
      split
      · right; dsimp only; omega
      · exact h3
theorem X7_peakL {fl : Nat} (hfl : 1000 ≤ fl) {s M : Mem} (hs : RO s) (hc : CR s 0 (iI s 341)) (hv : VR (iI s 341)) (hL : LT s M (iI M 342) (-1)) (hF : vF M) {c : Int} (h1 : 0 ≤ c) (h2 : c < 3) : ∀ (m i : Nat) (st : Int × Int) (k : Nat), i + m = 60 → m < k → 0 ≤ st.1 → st.1 ≤ 1000 → 0 ≤ st.2 → st.2 ≤ 60 →
    B_X7_peak_12 fl k 320 (oI c) (oI st.2) (oI st.1) (oI i) s = (if (itr (pkS (fun n => pwT M (iI M 342) c n)) m i st).2 < 60 then some (.inr (oI (itr (pkS (fun n => pwT M (iI M 342) c n)) m i st).2), s) else some (.inl 6, s)) := by
  intro m
  induction m with
  | zero =>
    intro i st k h hk b1 b2 b3 b4
    obtain ⟨k, rfl⟩ : ∃ k', k = k' + 1 := ⟨k - 1, by omega⟩
    show _ = (if st.2 < 60 then some ((Sum.inr (oI st.2) : Nat ⊕ Int32), s) else some (Sum.inl 6, s))
    unfold B_X7_peak_12
    simp (disch := omega) only [bd_some, nx_eq, xb_r, xb_l, xc_r, xc_l, oI_lit, oI_nI, oI_add, oI_sub, oI_mul, oI_neg, gI_oI, ldA_I, ldA_L, ldO_I, ldO_L, oB_z, oB_o, gd_oB, lgc0n, oI_litN, ← Int.natCast_add, ← Int.natCast_mul, Int.toNat_natCast, if_true, if_false, oI_le, oI_lt, oI_eq, oI_nat, oI_inR, gd_t]
    rw [if_pos (by omega)]
  | succ m ih =>
    intro i st k h hk b1 b2 b3 b4
    obtain ⟨k, rfl⟩ : ∃ k', k = k' + 1 := ⟨k - 1, by omega⟩
    have pb := pwT_bd hF (iI M 342) c i
    show _ = (if (itr (pkS (fun n => pwT M (iI M 342) c n)) m (i + 1) (pkS (fun n => pwT M (iI M 342) c n) st i)).2 < 60 then some ((Sum.inr (oI (itr (pkS (fun n => pwT M (iI M 342) c n)) m (i + 1) (pkS (fun n => pwT M (iI M 342) c n) st i)).2) : Nat ⊕ Int32), s) else some (Sum.inl 6, s))
    have hpw := X1_powerUsed (fl := fl) hfl hs hc hv hL (c := c) (n := i) (w := -1) (by omega) (by omega) (by omega) (by omega) (by omega) (by omega)
    unfold B_X7_peak_12 B_X7_peak_44
    rw [if_neg (by rw [oI_lit, oI_le (by decide) (by decide) (by omega) (by omega)]; show ¬ (60 : Int) ≤ i; omega), ld_320_1 hs, bd_some, m1_o, hpw, bd_some, show oI (i : Int) + (1 : Int32) = oI ((i + 1 : Nat) : Int) from by rw [oI_lit, oI_add]; rfl]
    by_cases hp : st.1 < pwT M (iI M 342) c i
    · rw [if_neg (by rw [oI_le (by omega) (by omega) (by omega) (by omega)]; omega), show pkS (fun n => pwT M (iI M 342) c n) st i = (pwT M (iI M 342) c i, (i : Int)) from if_pos hp]
      exact ih (i + 1) (pwT M (iI M 342) c i, (i : Int)) k (by omega) (by omega) (by dsimp only; omega) (by dsimp only; omega) (by dsimp only; omega) (by dsimp only; omega)
    · rw [if_pos (by rw [oI_le (by omega) (by omega) (by omega) (by omega)]; omega), show pkS (fun n => pwT M (iI M 342) c n) st i = st from if_neg hp]
      exact ih (i + 1) st k (by omega) (by omega) b1 b2 b3 b4
theorem X8_peakL {fl : Nat} (hfl : 1000 ≤ fl) {s : Mem} {h : Nat → Int} (hs : RO s) (hv : vT s) {c : Int} (h1 : 0 ≤ c) (h2 : c < 3) (hh : ∀ n : Nat, n < 60 → pw s c n = h n) : ∀ (m i : Nat) (st : Int × Int) (k : Nat), i + m = 60 → m < k → 0 ≤ st.1 → st.1 ≤ 1000 → 0 ≤ st.2 → st.2 ≤ 60 →
    B_X8_peak_37 fl k 340 (oI c) (oI st.1) (oI st.2) (oI i) s = (if (itr (pkS h) m i st).1 = 0 then some (0, pI s 340 0 2) else some (oI (itr (pkS h) m i st).2, pI s 340 0 0)) := by
  intro m
  induction m with
  | zero =>
    intro i st k h hk b1 b2 b3 b4
    obtain ⟨k, rfl⟩ : ∃ k', k = k' + 1 := ⟨k - 1, by omega⟩
    show _ = (if st.1 = 0 then some (0, pI s 340 0 2) else some (oI st.2, pI s 340 0 0))
    unfold B_X8_peak_37 B_X8_peak_95
    rw [if_pos (by rw [oI_lit, oI_le (by decide) (by decide) (by omega) (by omega)]; show (60 : Int) ≤ i; omega), nx_eq, nx_eq]
    by_cases h0 : st.1 = 0
    · rw [if_pos ((oI_z (by omega) (by omega)).mpr h0), if_neg (th_n s (by decide)), if_pos h0]
    · rw [if_neg (fun q => h0 ((oI_z (by omega) (by omega)).mp q)), if_pos (th_0 s), if_neg h0]
  | succ m ih =>
    intro i st k hh2 hk b1 b2 b3 b4
    obtain ⟨k, rfl⟩ : ∃ k', k = k' + 1 := ⟨k - 1, by omega⟩
    have p1 := pw_lo hv c i
    have p2 := pw_hi hv c i
    have hpw := X8_powerAt (fl := fl) hfl hs hv (c := c) (n := i) (by omega) (by omega) (by omega) (by omega)
    rw [hh i (by omega)] at hpw p1 p2
    show _ = (if (itr (pkS h) m (i + 1) (pkS h st i)).1 = 0 then some (0, pI s 340 0 2) else some (oI (itr (pkS h) m (i + 1) (pkS h st i)).2, pI s 340 0 0))
    unfold B_X8_peak_37 B_X8_peak_65 B_X8_peak_78
    rw [if_neg (by rw [oI_lit, oI_le (by decide) (by decide) (by omega) (by omega)]; show ¬ (60 : Int) ≤ i; omega), hpw, bd_some, show oI (i : Int) + (1 : Int32) = oI ((i + 1 : Nat) : Int) from by rw [oI_lit, oI_add]; rfl]
    by_cases hp : st.1 < h i
    · have hn : ¬ oI (h i) ≤ oI st.1 := by rw [oI_le (by omega) (by omega) (by omega) (by omega)]; omega
      rw [if_neg hn, if_neg hn, show pkS h st i = (h i, (i : Int)) from if_pos hp]
      exact ih (i + 1) (h i, (i : Int)) k (by omega) (by omega) (by dsimp only; omega) (by dsimp only; omega) (by dsimp only; omega) (by dsimp only; omega)
    · have hn : oI (h i) ≤ oI st.1 := by rw [oI_le (by omega) (by omega) (by omega) (by omega)]; omega
      rw [if_pos hn, if_pos hn, show pkS h st i = st from if_neg hp]
      exact ih (i + 1) st k (by omega) (by omega) b1 b2 b3 b4
theorem LM_peak {fl : Nat} (hfl : 1000 ≤ fl) {s : Mem} (hI : Inv s) {a : Int} (a1 : -2147483648 ≤ a) (a2 : a < 2147483648) : Ans (F_L_peak fl 320 (oI a) 350) (F_X8_peak fl 340 (oI a)) s := by
  have hI' := hI
  obtain ⟨hs, -, ⟨hv, hc⟩, -⟩ := hI'
  by_cases ha : 0 ≤ a ∧ a < 3
  · obtain ⟨M, hS, hF, hL, -, hN⟩ := ldPair hfl hI (w := -1) (by omega) (by omega)
    have q0 : F_X7_peak fl 320 (oI a) s = (if (itr (pkS (fun n => pwT M (iI M 342) a n)) 60 0 (0, 60)).2 < 60 then some ((Sum.inr (oI (itr (pkS (fun n => pwT M (iI M 342) a n)) 60 0 (0, 60)).2) : Nat ⊕ Int32), s) else some (Sum.inl 6, s)) := by
      unfold F_X7_peak
      rw [rqC_y (by omega) (by omega) ha, bd_some, xb_r]
      exact X7_peakL hfl hs hc hv hL hF ha.1 ha.2 60 0 (0, 60) fl rfl (by omega) (by omega) (by omega) (by omega) (by omega)
    have rel := pk_rel (fun n => pwT M (iI M 342) a n) 60 0 (0, 60) (0, 0) rfl (Int.le_refl _) (Or.inl ⟨rfl, rfl, rfl⟩) (by omega)
    have ref : ∀ s1, Inv s1 → FG s s1 scC → ∃ M1, FI (pI s1 340 0 0) M1 (fun k j => 342 ≤ k ∧ k ≤ 345 ∧ j ≤ 12) ∧ F_X8_peak fl 340 (oI a) s1 = (if (itr (pkS (fun n => pwT M (iI M 342) a n)) 60 0 (0, 0)).1 = 0 then some (0, pI M1 340 0 2) else some (oI (itr (pkS (fun n => pwT M (iI M 342) a n)) 60 0 (0, 0)).2, pI M1 340 0 0)) := by
      intro s1 hI1 F
      have hs1 := hI1.1
      obtain ⟨M1, n1, n2, n3, n4, n5, n6, n7, n8⟩ := hN (pI s1 340 0 0) hs1 (fun k => by rw [iI_pn (Or.inl (by omega)), sc41 F])
      refine ⟨M1, n2, ?_⟩
      unfold F_X8_peak
      rw [X8_isCircuit (by omega) (by omega), bd_some, ifB_t ha]
      unfold B_X8_peak_13
      rw [nx_eq, if_pos (th_0 s1), m1_o, n1, bd_some]
      exact X8_peakL hfl n5 n7 ha.1 ha.2 (fun n hn => by rw [pw_T, pwT_cg n3 n4]) 60 0 (0, 0) fl rfl (by omega) (by omega) (by omega) (by omega) (by omega)
    rcases rel.2.2 with ⟨r1, r2, r3⟩ | ⟨r1, r2, r3, r4⟩
    · rw [if_neg (by omega)] at q0
      obtain ⟨M1, n2, f1⟩ := ref s hI (FG_refl s _)
      rw [if_pos (by omega)] at f1
      exact Ans_x hI (c := 2) (by omega) (by omega) (L_peak_2 q0) f1 (FI_trans (FI_th s 0) (FI_trans (FI_lo n2) (FI_th M1 2))) rfl
    · rw [if_pos r4] at q0
      refine Ans_w hI (L_peak_v q0) fun s1 hI1 F => ?_
      obtain ⟨M1, n2, f1⟩ := ref s1 hI1 F
      rw [if_neg (by omega), ← r2] at f1
      exact ⟨_, f1, FI_trans (FI_th s1 0) (FI_trans (FI_lo n2) (FI_th M1 0)), rfl⟩
  · have q1 : F_X7_peak fl 320 (oI a) s = some (.inl 3, s) := by
      unfold F_X7_peak
      rw [rqC_n (by omega) (by omega) ha]
      rfl
    refine Ans_e hI (c := 1) (v := 0) (by omega) (by omega) (L_peak_1 q1) ?_
    unfold F_X8_peak
    rw [X8_isCircuit (by omega) (by omega), bd_some, ifB_f ha]
    unfold B_X8_peak_13
    rw [nx_eq, if_neg (th_n s (by decide))] <;> rfl
