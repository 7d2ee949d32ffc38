theorem Ans_x {fL f8 : Mem → Option (Int32 × Mem)} {s s2 : Mem} (hI : Inv s) {c : Nat} (h0 : 1 ≤ c) (hc : c < 9) {v : Int32} (h1 : fL s = some (oI c, s)) (h2 : f8 s = some (v, s2)) (h3 : FI s s2 scC) (h4 : iI s2 340 0 = c) : Ans fL f8 s := by
  refine ⟨oI c, s, v, s2, h1, h2, ?_, fun h => ?_, Inv_sc (FG_FI h3) hI⟩
  · rw [gI_oI, h4]
  · exfalso
    rw [oI_lit, oI_eq (by omega) (by omega) (by decide) (by decide)] at h
    have h' : (c : Int) = 0 := h
    omega
theorem oI_z {a : Int} (h : -4294967296 < a) (h2 : a < 4294967296) : oI a = 0 ↔ a = 0 := by
  rw [← Int32.toInt_inj]
  have e : (oI a).toInt = a.bmod 4294967296 := Int32.toInt_ofInt
  rw [e, show (0 : Int32).toInt = 0 from rfl, Int.bmod_def]
  split <;> omega
-- the first of some places
def fst1 (P : Nat → Prop) (n : Nat) (r : Int) : Prop := (r = -1 ∧ ∀ q, q < n → ¬ P q) ∨ ∃ q : Nat, r = q ∧ q < n ∧ P q ∧ ∀ x, x < q → ¬ P x
theorem fst1_u {P Q : Nat → Prop} {n m : Nat} {r r' : Int} (h : fst1 P n r) (h' : fst1 Q m r') (e : ∀ q, (q < n ∧ P q) ↔ (q < m ∧ Q q)) : r = r' := by
  rcases h with ⟨a, b⟩ | ⟨q, a, b, c, d⟩
  · rcases h' with ⟨a', b'⟩ | ⟨q', a', b', c', d'⟩
    · omega
    · have := (e q').mpr ⟨b', c'⟩
      exact absurd this.2 (b q' this.1)
  · rcases h' with ⟨a', b'⟩ | ⟨q', a', b', c', d'⟩
    · have := (e q).mp ⟨b, c⟩
      exact absurd this.2 (b' q this.1)
    · rcases Nat.lt_trichotomy q q' with h1 | h1 | h1
      · have := (e q).mp ⟨b, c⟩
        exact absurd this.2 (d' q h1)
      · omega
      · have := (e q').mpr ⟨b', c'⟩
        exact absurd this.2 (d q' h1)
theorem fst1_bd {P : Nat → Prop} {n : Nat} {r : Int} (h : fst1 P n r) : -1 ≤ r ∧ r < n := by
  rcases h with ⟨a, b⟩ | ⟨q, a, b, c, d⟩ <;> omega
def paC (s : Mem) (p n : Int) (q : Nat) : Prop := iI s 341 (50 + 10 * q + 8) = 1 ∧ iI s 341 (50 + 10 * q + 6) = p ∧ iI s 341 (50 + 10 * q + 4) ≤ n ∧ n < iI s 341 (50 + 10 * q + 4) + iI s 341 (50 + 10 * q + 5)
theorem X1_partyAtL {fl : Nat} {s : Mem} (hs : RO s) (hc : CR s 0 (iI s 341)) (hv : VR (iI s 341)) {p n : Int} (h1 : -2147483648 ≤ p) (h2 : p < 2147483648) (h5 : 0 ≤ n) (h6 : n < 60) : ∀ (m i : Nat) (k : Nat), iI s 341 1 = ((i + m : Nat) : Int) → m < k → (∀ q, q < i → ¬ paC s p n q) →
    ∃ r, B_X1_partyAt_2 fl s k 0 (oI p) (oI n) (oI i) = some (oI r) ∧ fst1 (paC s p n) (i + m) r := by
  have b := VRn hv
  unfold VN at b
  intro m
  induction m with
  | zero =>
    intro i k h hk hn
    obtain ⟨k, rfl⟩ : ∃ k', k = k' + 1 := ⟨k - 1, by omega⟩
    refine ⟨-1, ?_, Or.inl ⟨rfl, hn⟩⟩
    unfold B_X1_partyAt_2
    simp (disch := omega) only [bd_some, nx_eq, xb_r, xb_l, xc_r, xc_l, oI_lit, oI_nI, oI_add, oI_sub, oI_mul, oI_neg, gI_oI, ldA_I, ldA_L, ldO_I, ldO_L, oB_z, oB_o, gd_oB, lgc0n, oI_litN, ← Int.natCast_add, ← Int.natCast_mul, Int.toNat_natCast, if_true, if_false, oI_le, oI_lt, oI_eq, oI_nat, oI_inR, gd_t, ld_00 hs, ld_02 hs, ld_04 hs, ld_06 hs, ld_p hs, ld_q hs, ld_s hs, c_pc hc, c_qc hc, c_sc hc, c_tn hc, c_gp hc, c_lm hc, c_p hc, c_s hc, c_q hc, c_q7 hc, c_q8 hc, c_q9 hc, c_q10 hc, c_qL hc]
    rw [if_pos (by omega)]
  | succ m ih =>
    intro i k h hk hn
    obtain ⟨k, rfl⟩ : ∃ k', k = k' + 1 := ⟨k - 1, by omega⟩
    have d := VRq hv (q := i) (by omega)
    unfold VQ at d
    have hh := X7_holdsM (fl := fl) (s := s) (f := iI s 341 (50 + 10 * i + 4)) (n := iI s 341 (50 + 10 * i + 5)) (x := n) (by omega) (by omega) (by omega) (by omega) (by omega) (by omega)
    unfold B_X1_partyAt_2 B_X1_partyAt_41
    simp (disch := omega) only [bd_some, nx_eq, xb_r, xb_l, xc_r, xc_l, oI_lit, oI_nI, oI_add, oI_sub, oI_mul, oI_neg, gI_oI, ldA_I, ldA_L, ldO_I, ldO_L, oB_z, oB_o, gd_oB, lgc0n, oI_litN, ← Int.natCast_add, ← Int.natCast_mul, Int.toNat_natCast, if_true, if_false, oI_le, oI_lt, oI_eq, oI_nat, oI_inR, gd_t, ld_00 hs, ld_02 hs, ld_04 hs, ld_06 hs, ld_p hs, ld_q hs, ld_s hs, c_pc hc, c_qc hc, c_sc hc, c_tn hc, c_gp hc, c_lm hc, c_p hc, c_s hc, c_q hc, c_q7 hc, c_q8 hc, c_q9 hc, c_q10 hc, c_qL hc, hh, X3_isOn]
    rw [if_neg (by omega)]
    by_cases hp : paC s p n i
    · have hp' := hp
      unfold paC at hp'
      rw [if_neg (by omega), if_neg (by omega)]
      exact ⟨i, rfl, Or.inr ⟨i, rfl, by omega, hp, hn⟩⟩
    · obtain ⟨r, g1, g2⟩ := ih (i + 1) k (by omega) (by omega) (fun q hq => by
        by_cases hqi : q = i
        · subst hqi; exact hp
        · exact hn q (by omega))
      refine ⟨r, ?_, by rw [show i + (m + 1) = i + 1 + m by omega]; exact g2⟩
      unfold paC at hp
      rw [← g1]
      repeat' split
      all_goals first
        | rfl
        | (exfalso; omega)
theorem X8_occL {fl : Nat} {s : Mem} (hs : RO s) (hF : vF s) {p n : Int} (h1 : 0 ≤ p) (h2 : p < 2147483648) (h5 : 0 ≤ n) (h6 : n < 60) : ∀ (m i : Nat) (k : Nat), i + m = 12 → m < k → (∀ q, q < i → ¬ (iI s 342 q = p ∧ inN s q n)) →
    ∃ r, B_X8_occupant_40 fl k 340 (oI p) (oI n) (oI i) s = some (oI r, s) ∧ fst1 (fun q => iI s 342 q = p ∧ inN s q n) (i + m) r := by
  intro m
  induction m with
  | zero =>
    intro i k h hk hn
    obtain ⟨k, rfl⟩ : ∃ k', k = k' + 1 := ⟨k - 1, by omega⟩
    refine ⟨-1, ?_, Or.inl ⟨rfl, hn⟩⟩
    unfold B_X8_occupant_40
    simp (disch := omega) only [bd_some, nx_eq, xb_r, xb_l, xc_r, xc_l, oI_lit, oI_nI, oI_add, oI_sub, oI_mul, oI_neg, gI_oI, ldA_I, ldA_L, ldO_I, ldO_L, oB_z, oB_o, gd_oB, lgc0n, oI_litN, ← Int.natCast_add, ← Int.natCast_mul, Int.toNat_natCast, if_true, if_false, oI_le, oI_lt, oI_eq, oI_nat, oI_inR, gd_t]
    rw [if_pos (by omega)]
  | succ m ih =>
    intro i k h hk hn
    obtain ⟨k, rfl⟩ : ∃ k', k = k' + 1 := ⟨k - 1, by omega⟩
    have d := hF i (by omega)
    have b0 := iI_lo s 342 i
    have b1 := iI_hi s 342 i
    unfold B_X8_occupant_40 B_X8_occupant_86
    simp (disch := omega) only [bd_some, nx_eq, xb_r, xb_l, xc_r, xc_l, oI_lit, oI_nI, oI_add, oI_sub, oI_mul, oI_neg, gI_oI, ldA_I, ldA_L, ldO_I, ldO_L, oB_z, oB_o, gd_oB, lgc0n, oI_litN, ← Int.natCast_add, ← Int.natCast_mul, Int.toNat_natCast, if_true, if_false, oI_le, oI_lt, oI_eq, oI_nat, oI_inR, gd_t, ld_340_4 hs, ld_340_5 hs, ld_340_6 hs, X8_in]
    rw [if_neg (by omega)]
    by_cases hp : iI s 342 i = p ∧ inN s i n
    · rw [if_pos hp.1, if_neg (by unfold inN at hp; omega)]
      exact ⟨i, rfl, Or.inr ⟨i, rfl, by omega, hp, hn⟩⟩
    · obtain ⟨r, g1, g2⟩ := ih (i + 1) k (by omega) (by omega) (fun q hq => by
        by_cases hqi : q = i
        · subst hqi; exact hp
        · exact hn q (by omega))
      refine ⟨r, ?_, by rw [show i + (m + 1) = i + 1 + m by omega]; exact g2⟩
      unfold inN at hp
      rw [← g1]
      repeat' split
      all_goals first
        | rfl
        | (exfalso; omega)
theorem LM_occupant {fl : Nat} (hfl : 1000 ≤ fl) {s : Mem} (hI : Inv s) {a b : Int} (a1 : -2147483648 ≤ a) (a2 : a < 2147483648) (b1 : -2147483648 ≤ b) (b2 : b < 2147483648) : Ans (F_L_occupant fl 320 (oI a) (oI b) 350) (F_X8_occupant fl 340 (oI a) (oI b)) s := by
  have hI' := hI
  obtain ⟨hs, -, ⟨hv, hc⟩, -⟩ := hI'
  have bn := VRn hv
  unfold VN at bn
  by_cases ha : 0 ≤ a ∧ a < iI s 341 0
  · by_cases hb : 0 ≤ b ∧ b < 60
    · obtain ⟨r, g1, g2⟩ := X1_partyAtL (fl := fl) hs hc hv (p := a) (n := b) (by omega) (by omega) (by omega) (by omega) (iI s 341 1).toNat 0 fl (by omega) (by omega) (fun q hq => by omega)
      have q1 : F_X7_occupant fl 320 (oI a) (oI b) s = some (.inr (oI r), s) := by
        unfold F_X7_occupant F_X1_partyAt
        rw [rqP_y hs hc (by omega) (by omega) ha, bd_some, xb_r, rqN_y (by omega) (by omega) hb, bd_some, xb_r, ld_320_1 hs, bd_some, n0_o, g1, bd_some]
      obtain ⟨M, hS, hF, hL, -, hN⟩ := ldPair hfl hI (w := -1) (by omega) (by omega)
      refine Ans_w hI (L_occupant_v q1) fun s1 hI1 F => ?_
      have hs1 := hI1.1
      have e0 := sc41 F 0
      obtain ⟨M1, n1, n2, n3, n4, n5, n6, n7, n8⟩ := hN (pI s1 340 0 0) hs1 (fun k => by rw [iI_pn (Or.inl (by omega)), sc41 F])
      refine ⟨M1, ?_, FI_trans (FI_th s1 0) (FI_lo n2), by rw [n2.2 340 0 (by omega)]; exact th_z s1⟩
      obtain ⟨r', f1, f2⟩ := X8_occL (fl := fl) n5 n6 (p := a) (n := b) (by omega) (by omega) (by omega) (by omega) 12 0 fl (by omega) (by omega) (fun q hq => by omega)
      have er : r = r' := by
        refine fst1_u g2 f2 fun q => ?_
        constructor
        · rintro ⟨h1, h2⟩
          have h3 : ldB s (-1) q := ⟨by omega, h2.1, by omega⟩
          have e := (hL.2.2 q (by omega)).1 h3
          have e' := n3.2 q (by omega)
          refine ⟨by omega, by rw [n4 q (by omega), e.1]; exact h2.2.1, ?_⟩
          unfold inN
          rw [e'.1, e'.2.1, e.2.1, e.2.2.1]
          exact h2.2.2
        · rintro ⟨h1, h2, h3⟩
          rw [n4 q (by omega)] at h2
          by_cases hB : ldB s (-1) q
          · have e := (hL.2.2 q (by omega)).1 hB
            have e' := n3.2 q (by omega)
            unfold inN at h3
            rw [e'.1, e'.2.1, e.2.1, e.2.2.1] at h3
            exact ⟨by unfold ldB at hB; omega, hB.2.1, by rw [← e.1]; exact h2, h3⟩
          · have e := (hL.2.2 q (by omega)).2 hB
            omega
      unfold F_X8_occupant
      rw [X8_isPitch hs1 (by omega) (by omega) (by omega), bd_some, ifB_t (by omega), X8_isNight (by omega) (by omega), bd_some, ifB_t hb]
      unfold B_X8_occupant_21
      rw [nx_eq, if_pos (th_0 s1), m1_o, n1, bd_some, n0_o, f1, er]
    · have q1 : F_X7_occupant fl 320 (oI a) (oI b) s = some (.inl 3, s) := by
        unfold F_X7_occupant
        rw [rqP_y hs hc (by omega) (by omega) ha, bd_some, xb_r, rqN_n (by omega) (by omega) hb]
        rfl
      refine Ans_e hI (c := 1) (v := 0) (by omega) (by omega) (L_occupant_1 q1) ?_
      unfold F_X8_occupant
      rw [X8_isPitch hs (by omega) (by omega) (by omega), bd_some, ifB_t (by omega), X8_isNight (by omega) (by omega), bd_some, ifB_f hb]
      unfold B_X8_occupant_20 B_X8_occupant_21
      rw [nx_eq, if_neg (th_n s (by decide))] <;> rfl
  · have q1 : F_X7_occupant fl 320 (oI a) (oI b) s = some (.inl 3, s) := by
      unfold F_X7_occupant
      rw [rqP_n hs hc (by omega) (by omega) (by omega)]
      rfl
    refine Ans_e hI (c := 1) (v := 0) (by omega) (by omega) (L_occupant_1 q1) ?_
    unfold F_X8_occupant
    rw [X8_isPitch hs (by omega) (by omega) (by omega), bd_some, ifB_f (by omega)]
    unfold B_X8_occupant_20 B_X8_occupant_21
    rw [nx_eq, if_neg (th_n s (by decide))] <;> rfl
-- the night of an index
theorem X8_busyNL {fl : Nat} {s : Mem} {v : Int64} {x : Int} (h1 : -2147483648 ≤ x) (h2 : x < 2147483648) : ∀ (m i k : Nat), i + m = 60 → m < k → (∀ j, j < i → bt v j = true → (cn v j : Int) ≠ x) →
    ∃ r : Nat, (r < 60 ∧ bt v r = true ∧ (cn v r : Int) = x ∧ B_X8_busyNight_43 fl k 340 v (oI (x - cn v i)) (oI i) s = some (oI r, s)) ∨ (r = 60 ∧ (∀ j, j < 60 → bt v j = true → (cn v j : Int) ≠ x) ∧ B_X8_busyNight_43 fl k 340 v (oI (x - cn v i)) (oI i) s = some (0, pI s 340 0 2)) := by
  intro m
  induction m with
  | zero =>
    intro i k h hk hn
    obtain ⟨k, rfl⟩ : ∃ k', k = k' + 1 := ⟨k - 1, by omega⟩
    refine ⟨60, Or.inr ⟨rfl, by rw [show (60 : Nat) = i by omega]; exact hn, ?_⟩⟩
    unfold B_X8_busyNight_43
    rw [if_pos (by rw [oI_lit, oI_le (by decide) (by decide) (by omega) (by omega)]; show (60 : Int) ≤ i; omega), nx_eq]
  | succ m ih =>
    intro i k h hk hn
    obtain ⟨k, rfl⟩ : ∃ k', k = k' + 1 := ⟨k - 1, by omega⟩
    have hc := cn_le v i
    unfold B_X8_busyNight_43 B_X8_busyNight_75
    rw [if_neg (by rw [oI_lit, oI_le (by decide) (by decide) (by omega) (by omega)]; show ¬ (60 : Int) ≤ i; omega), show oI (i : Int) + (1 : Int32) = oI ((i + 1 : Nat) : Int) from by rw [oI_lit, oI_add]; rfl]
    cases hb : bt v i with
    | false =>
      rw [if_pos ((bit_s v (by omega)).mpr hb)]
      have := ih (i + 1) k (by omega) (by omega) (fun j hj hj2 => by
        by_cases hji : j = i
        · subst hji; rw [hb] at hj2; cases hj2
        · exact hn j (by omega) hj2)
      rw [cn_s, hb] at this
      exact this
    | true =>
      rw [if_neg (fun q => by rw [(bit_s v (by omega)).mp q] at hb; cases hb)]
      by_cases hx : (cn v i : Int) = x
      · rw [if_pos ((oI_z (by omega) (by omega)).mpr (by omega))]
        exact ⟨i, Or.inl ⟨by omega, hb, hx, rfl⟩⟩
      · rw [if_neg (fun q => hx (by have := (oI_z (by omega) (by omega)).mp q; omega))]
        have := ih (i + 1) k (by omega) (by omega) (fun j hj hj2 => by
          by_cases hji : j = i
          · subst hji; exact hx
          · exact hn j (by omega) hj2)
        rw [cn_s, hb, if_pos rfl] at this
        rw [show oI (x - (cn v i : Nat)) + (-1 : Int32) = oI (x - ((cn v i + 1 : Nat) : Int)) from by rw [m1_o, oI_add]; congr 1; omega]
        exact this
theorem cn_inj {v : Int64} {a b : Nat} (ha : bt v a = true) (hb : bt v b = true) (h : cn v a = cn v b) : a = b := by
  rcases Nat.lt_trichotomy a b with h1 | h1 | h1
  · have := cn_mono v (a + 1) (b - (a + 1))
    rw [show a + 1 + (b - (a + 1)) = b by omega, cn_s, ha, if_pos rfl] at this
    omega
  · exact h1
  · have := cn_mono v (b + 1) (a - (b + 1))
    rw [show b + 1 + (a - (b + 1)) = a by omega, cn_s, hb, if_pos rfl] at this
    omega
theorem LM_busyNight {fl : Nat} (hfl : 1000 ≤ fl) {s : Mem} (hI : Inv s) {a b : Int} (a1 : -2147483648 ≤ a) (a2 : a < 2147483648) (b1 : -2147483648 ≤ b) (b2 : b < 2147483648) : Ans (F_L_busyNight fl 320 (oI a) (oI b) 350) (F_X8_busyNight fl 340 (oI a) (oI b)) s := by
  have hI' := hI
  obtain ⟨hs, -, ⟨hv, hc⟩, -⟩ := hI'
  have bn := VRn hv
  unfold VN at bn
  by_cases ha : 0 ≤ a ∧ a < iI s 341 0
  · obtain ⟨M, hS, hF, hL, -, hN⟩ := ldPair hfl hI (w := -1) (by omega) (by omega)
    obtain ⟨r, g1, g2⟩ := X7_nightAt (fl := fl) (s := s) hfl (moT M (iI M 342) a (-1)) b1 b2
    have q0 : F_X7_busyNight fl 320 (oI a) (oI b) s = if oI (r : Int) < (60 : Int32) then some (.inr (oI r), s) else some (.inl 6, s) := by
      unfold F_X7_busyNight
      rw [rqP_y hs hc (by omega) (by omega) ha, bd_some, xb_r, ld_320_1 hs, bd_some, m1_o, X1_busyNights hfl hs hc hv hL hF (by omega) (by omega) (by omega) (by omega), bd_some, g1, bd_some]
    have hr : oI (r : Int) < (60 : Int32) ↔ r < 60 := by
      rw [oI_lit, oI_lt (by omega) (by rcases g2 with g | g <;> omega) (by decide) (by decide)]
      show (r : Int) < 60 ↔ _
      omega
    have ref : ∀ s1, Inv s1 → FG s s1 scC → ∃ M1, FI (pI s1 340 0 0) M1 (fun k j => 342 ≤ k ∧ k ≤ 345 ∧ j ≤ 12) ∧ F_X8_busyNight fl 340 (oI a) (oI b) s1 = B_X8_busyNight_43 fl fl 340 (moT M (iI M 342) a (-1)) (oI (b - cn (moT M (iI M 342) a (-1)) 0)) (oI (0 : Nat)) M1 := by
      intro s1 hI1 F
      have hs1 := hI1.1
      have e0 := sc41 F 0
      obtain ⟨M1, n1, n2, n3, n4, n5, n6, n7, n8⟩ := hN (pI s1 340 0 0) hs1 (fun k => by rw [iI_pn (Or.inl (by omega)), sc41 F])
      refine ⟨M1, n2, ?_⟩
      have hmo := X8_maskOf (fl := fl) hfl n5 (p := a) (by omega) (by omega)
      rw [mo_T, moT_cg n3 n4] at hmo
      unfold F_X8_busyNight
      rw [X8_isPitch hs1 (by omega) (by omega) (by omega), bd_some, ifB_t (by omega)]
      unfold B_X8_busyNight_14
      rw [nx_eq, if_pos (th_0 s1), m1_o, n1, bd_some, hmo, bd_some, n0_o, show b - ((cn (moT M (iI M 342) a (-1)) 0 : Nat) : Int) = b from Int.sub_zero b]
    rcases g2 with ⟨c1, c2, c3⟩ | ⟨c1, c2⟩
    · rw [if_pos (hr.mpr c1)] at q0
      refine Ans_w hI (L_busyNight_v q0) fun s1 hI1 F => ?_
      obtain ⟨M1, n2, f1⟩ := ref s1 hI1 F
      obtain ⟨r', f2⟩ := X8_busyNL (fl := fl) (s := M1) (v := moT M (iI M 342) a (-1)) b1 b2 60 0 fl rfl (by omega) (fun j h => by omega)
      rcases f2 with ⟨d1, d2, d3, d4⟩ | ⟨d1, d2, d4⟩
      · refine ⟨M1, ?_, FI_trans (FI_th s1 0) (FI_lo n2), by rw [n2.2 340 0 (by omega)]; exact th_z s1⟩
        rw [f1, d4, cn_inj c2 d2 (by omega)]
      · exact absurd c3 (d2 r c1 c2)
    · rw [if_neg (fun q => by have := hr.mp q; omega)] at q0
      obtain ⟨M1, n2, f1⟩ := ref s hI (FG_refl s _)
      obtain ⟨r', f2⟩ := X8_busyNL (fl := fl) (s := M1) (v := moT M (iI M 342) a (-1)) b1 b2 60 0 fl rfl (by omega) (fun j h => by omega)
      rcases f2 with ⟨d1, d2, d3, d4⟩ | ⟨d1, d2, d4⟩
      · exact absurd d3 (c2 r' d1 d2)
      · refine Ans_x hI (c := 2) (by omega) (by omega) (L_busyNight_2 q0) (f1.trans d4) (FI_trans (FI_th s 0) (FI_trans (FI_lo n2) (FI_th M1 2))) rfl
  · have q1 : F_X7_busyNight fl 320 (oI a) (oI b) s = some (.inl 3, s) := by
      unfold F_X7_busyNight
      rw [rqP_n hs hc (by omega) (by omega) (by omega)]
      rfl
    refine Ans_e hI (c := 1) (v := 0) (by omega) (by omega) (L_busyNight_1 q1) ?_
    unfold F_X8_busyNight
    rw [X8_isPitch hs (by omega) (by omega) (by omega), bd_some, ifB_f (by omega)]
    unfold B_X8_busyNight_14
    rw [nx_eq, if_neg (th_n s (by decide))] <;> rfl
