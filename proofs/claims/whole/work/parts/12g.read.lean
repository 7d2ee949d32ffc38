-- one gap of a pitch
def recG (v E : Int64) (x : Int) (s : Mem) : Prop := ∃ a b : Nat, a < b ∧ b < 60 ∧ bt E a = true ∧ (cn E a : Int) = x ∧ bt v b = true ∧ (∀ j, a < j → j < b → bt v j = false) ∧ iI s 340 8 = a + 1 ∧ iI s 340 9 = (b : Int) - 1
theorem X8_gapsRL {fl : Nat} {v E : Int64} {g : Nat} {x : Int} (hE : EG v g E) (hg1 : g ≤ 5) (x1 : -2147483648 ≤ x) (x2 : x < 2147483648) : ∀ (m i : Nat) (st : Int × Int) (k : Nat) (s : Mem), i + m = 60 → m < k → RO s → iI s 341 4 = g → gSt v E i st → 0 ≤ st.1 → st.1 ≤ i → (0 ≤ x → x < st.1 → recG v E x s) →
    ∃ s', B_X8_gaps_9 fl k 340 v (oI x) (oI st.1) (oI st.2) (oI i) s = some (oI (itr (gT v g) m i st).1, s') ∧ FI s s' (fun k j => k = 340 ∧ (j = 8 ∨ j = 9)) ∧ (0 ≤ x → x < (itr (gT v g) m i st).1 → recG v E x s') := by
  intro m
  induction m with
  | zero =>
    intro i st k s h hk hs hg hst h1 h2 hr
    obtain ⟨k, rfl⟩ : ∃ k', k = k' + 1 := ⟨k - 1, by omega⟩
    refine ⟨s, ?_, FI_refl _ _, hr⟩
    unfold B_X8_gaps_9
    rw [if_pos (by rw [oI_lit, oI_le (by decide) (by decide) (by omega) (by omega)]; show (60 : Int) ≤ i; omega)]
    rfl
  | succ m ih =>
    intro i st k s h hk hs hg hst h1 h2 hr
    obtain ⟨k, rfl⟩ : ∃ k', k = k' + 1 := ⟨k - 1, by omega⟩
    have ei : oI (i : Int) + (1 : Int32) = oI ((i + 1 : Nat) : Int) := by rw [oI_lit, oI_add]; rfl
    show ∃ s', _ = some (oI (itr (gT v g) m (i + 1) (gT v g st i)).1, s') ∧ _ ∧ (0 ≤ x → x < (itr (gT v g) m (i + 1) (gT v g st i)).1 → _)
    unfold B_X8_gaps_9 B_X8_gaps_73 B_X8_gaps_94 B_X8_gaps_100 B_X8_gaps_104
    rw [if_neg (by rw [oI_lit, oI_le (by decide) (by decide) (by omega) (by omega)]; show ¬ (60 : Int) ≤ i; omega), ei]
    cases hbt : bt v i with
    | false =>
      rw [if_pos ((bit_s v (by omega)).mpr hbt)]
      have e : gT v g st i = st := by unfold gT; rw [if_neg (by rw [hbt]; exact fun q => by cases q)]
      have hst' := gSt_free (g := g) hbt hst
      rw [e] at hst' ⊢
      exact ih (i + 1) st k s (by omega) (by omega) hs hg hst' h1 (by omega) hr
    | true =>
      rw [if_neg (fun q => by rw [(bit_s v (by omega)).mp q] at hbt; cases hbt)]
      have hst' := gSt_busy hE hbt hst
      by_cases hl : st.2 < 0
      · have e : gT v g st i = (st.1, (i : Int)) := by unfold gT; rw [if_pos hbt, if_neg (by omega)]
        rw [e] at hst' ⊢
        rw [if_pos (by rw [n0_o, oI_lt (by rcases hst with ⟨q, _⟩ | ⟨l, q, _⟩ <;> omega) (by omega) (by omega) (by omega)]; exact hl)]
        exact ih (i + 1) (st.1, (i : Int)) k s (by omega) (by omega) hs hg hst' h1 (by dsimp only; omega) hr
      · rcases hst with ⟨q1, q2, q3⟩ | ⟨l, q1, q2, q3, q4, q5⟩
        · omega
        · rw [if_neg (by rw [n0_o, oI_lt (by omega) (by omega) (by omega) (by omega)]; exact hl), ld_340_1 hs, bd_some, gd_t (by rw [oI_lit, oI_inR (by decide) (by decide)]; decide)]
          have e4 : gI s 341 (4 : Int32).toNatClampNeg = oI (g : Int) := by
            rw [gI_oI]
            exact congrArg oI hg
          dsimp only
          rw [e4, show oI (i : Int) - oI st.2 - (1 : Int32) = oI ((i : Int) - st.2 - 1) from by rw [oI_sub, oI_lit, oI_sub], show (1 : Int32) = oI 1 from rfl, X8_in (by omega) (by omega) (by omega) (by omega) (by omega) (by omega), bd_some]
          by_cases hc : 1 ≤ (i : Int) - st.2 - 1 ∧ (i : Int) - st.2 - 1 ≤ g
          · have e : gT v g st i = (st.1 + 1, (i : Int)) := by unfold gT; rw [if_pos hbt, if_pos ⟨by omega, hc⟩]
            rw [e] at hst' ⊢
            rw [ifB_t hc]
            have hEl : bt E l = true := (hE l (by omega)).mpr ((eg_next q3 hbt q2 q4).mpr (by omega))
            by_cases hx : st.1 = x
            · rw [if_pos (by rw [hx]), nx_eq, if_pos (by rw [hx]), nx_eq, show oI st.2 + oI 1 = oI ((l + 1 : Nat) : Int) from by rw [oI_add]; congr 1; omega, show oI (i : Int) - oI 1 = oI ((i : Int) - 1) from by rw [oI_sub], show oI st.1 + oI 1 = oI (st.1 + 1) from by rw [oI_add]]
              have F : FI s (pI (pI s 340 8 (oI ((l + 1 : Nat) : Int))) 340 9 (oI ((i : Int) - 1))) (fun k j => k = 340 ∧ (j = 8 ∨ j = 9)) := FI_trans (FI_p _ _ _ _ ⟨rfl, Or.inl rfl⟩) (FI_p _ _ _ _ ⟨rfl, Or.inr rfl⟩)
              obtain ⟨s', f1, f2, f3⟩ := ih (i + 1) (st.1 + 1, (i : Int)) k _ (by omega) (by omega) (FI_RO F hs) (by rw [F.2 341 4 (by omega)]; exact hg) hst' (by dsimp only; omega) (by dsimp only; omega) (fun _ _ => ⟨l, i, q2, by omega, hEl, by omega, hbt, q4, by rw [iI_pn (Or.inr (by omega)), iI_pe (by omega) (by omega)]; rfl, by rw [iI_pe (by omega) (by omega)]⟩)
              exact ⟨s', f1, FI_trans F f2, f3⟩
            · have hx' : ¬ oI st.1 = oI x := fun q => hx ((oI_eq (by omega) (by omega) x1 x2).mp q)
              rw [if_neg hx', pI_self, nx_eq, if_neg hx', pI_self, nx_eq, show oI st.1 + oI 1 = oI (st.1 + 1) from by rw [oI_add]]
              exact ih (i + 1) (st.1 + 1, (i : Int)) k s (by omega) (by omega) hs hg hst' (by dsimp only; omega) (by dsimp only; omega) (fun z1 z2 => hr z1 (by dsimp only at z2; omega))
          · have e : gT v g st i = (st.1, (i : Int)) := by unfold gT; rw [if_pos hbt, if_neg (fun q => hc q.2)]
            rw [e] at hst' ⊢
            rw [ifB_f hc]
            exact ih (i + 1) (st.1, (i : Int)) k s (by omega) (by omega) hs hg hst' h1 (by dsimp only; omega) hr
theorem LM_gap {fl : Nat} (hfl : 1000 ≤ fl) {s : Mem} (hI : Inv s) {a b : Int} {z : Int32} (a1 : -2147483648 ≤ a) (a2 : a < 2147483648) (b1 : -2147483648 ≤ b) (b2 : b < 2147483648) : Ans (F_L_gap fl 320 (oI a) (oI b) z 350) (F_X8_gap fl 340 (oI a) (oI b) z) s := by
  have hI' := hI
  obtain ⟨hs, -, ⟨hv, hc⟩, -⟩ := hI'
  have bn := VRn hv
  unfold VN at bn
  by_cases ha : 0 ≤ a ∧ a < iI s 341 0
  · obtain ⟨M, hS, hF, hL, -, hN⟩ := ldPair hfl hI (w := -1) (by omega) (by omega)
    have eg4 : iI s 0 7 = ((iI s 341 4).toNat : Nat) := by rw [c_gp hc]; omega
    have hnz := nz_moT hF (iI M 342) a (-1)
    obtain ⟨v, hvv⟩ : ∃ v, moT M (iI M 342) a (-1) = v := ⟨_, rfl⟩
    rw [hvv] at hnz
    obtain ⟨E, hE1, hE2⟩ := X1_gapEdges (fl := fl) hfl v eg4 (by omega)
    obtain ⟨r, g1, g2⟩ := X7_nightAt (fl := fl) (s := s) hfl E b1 b2
    have q0 : F_X7_gap fl 320 (oI a) (oI b) z s = if oI (r : Int) < (60 : Int32) then (if z = 0 then some (.inr (oI r + 1), s) else bd (F_X7_nextBusy fl v (oI r + 1) s) fun q19 => some (.inr (q19 - 1), s)) else some (.inl 6, s) := by
      unfold F_X7_gap
      rw [rqP_y hs hc (by omega) (by omega) ha, bd_some, xb_r, ld_320_1 hs, bd_some, m1_o, X1_busyNights hfl hs hc hv hL hF (by omega) (by omega) (by omega) (by omega), bd_some, bd_some, hvv, hE1, bd_some, g1, bd_some]
    have hr : oI (r : Int) < (60 : Int32) ↔ r < 60 := by
      rw [oI_lit, oI_lt (by omega) (by rcases g2 with g | g <;> omega) (by decide) (by decide)]
      show (r : Int) < 60 ↔ _
      omega
    have hcE : ∀ y : Nat, y < 60 → bt E y = true → cn E y < cn E 64 := fun y hy hb => by
      have := cn_mono E (y + 1) (64 - (y + 1))
      rw [show y + 1 + (64 - (y + 1)) = 64 by omega, cn_s, hb, if_pos rfl] at this
      omega
    have hlt : cn E 64 ≤ 64 := cn_le E 64
    have ref : ∀ s1, Inv s1 → FG s s1 scC → ∃ s2, F_X8_gap fl 340 (oI a) (oI b) z s1 = (bd (F_X8_in fl (oI b) 0 (oI (cn E 64 : Nat) - 1) s2) fun q14 => if q14 = 0 then B_X8_gap_57 fl 340 z 340 2 s2 else B_X8_gap_57 fl 340 z 340 0 s2) ∧ FI s1 s2 scC ∧ (0 ≤ b → b < (cn E 64 : Nat) → recG v E b s2) := by
      intro s1 hI1 F
      have hs1 := hI1.1
      have e0 := sc41 F 0
      obtain ⟨M1, n1, n2, n3, n4, n5, n6, n7, n8⟩ := hN (pI s1 340 0 0) hs1 (fun k => by rw [iI_pn (Or.inl (by omega)), sc41 F])
      have hmo := X8_maskOf (fl := fl) hfl n5 (p := a) (by omega) (by omega)
      rw [mo_T, moT_cg n3 n4, hvv] at hmo
      have i0 : gSt v E 0 (0, -1) := Or.inl ⟨rfl, rfl, fun j h => by omega⟩
      obtain ⟨s2, f1, f2, f3⟩ := X8_gapsRL (fl := fl) (s := M1) (g := (iI s 341 4).toNat) hE2 (by omega) b1 b2 60 0 (0, -1) fl rfl (by omega) n5 (by rw [n8]; omega) i0 (by decide) (by decide) (fun h1 h2 => by dsimp only at h2; omega)
      have hend := gSt_end hE2 hnz (gSt_all hE2 60 0 (0, -1) i0)
      rw [hend] at f1 f3
      refine ⟨s2, ?_, FI_trans (FI_th s1 0) (FI_trans (FI_lo n2) (FI_mono f2 (by unfold scC; omega))), f3⟩
      unfold F_X8_gap
      rw [X8_isPitch hs1 (by omega) (by omega) (by omega), bd_some, ifB_t (by omega)]
      unfold B_X8_gap_14 F_X8_gaps
      rw [nx_eq, if_pos (th_0 s1), m1_o, n1, bd_some, hmo, bd_some, show B_X8_gaps_9 fl fl 340 v (oI b) 0 (oI (-1)) 0 M1 = some (oI (cn E 64 : Nat), s2) from f1, bd_some]
    have hin : ∀ s2, F_X8_in fl (oI b) 0 (oI (cn E 64 : Nat) - 1) s2 = some (oB (0 ≤ b ∧ b ≤ (cn E 64 : Nat) - 1)) := fun s2 => by
      rw [n0_o, show oI (cn E 64 : Nat) - (1 : Int32) = oI ((cn E 64 : Nat) - 1) from by rw [oI_lit, oI_sub]]
      exact X8_in b1 b2 (by omega) (by omega) (by omega) (by omega)
    rcases g2 with ⟨c1, c2, c3⟩ | ⟨c1, c2⟩
    · have hb := hcE r c1 c2
      rw [if_pos (hr.mpr c1)] at q0
      have hb2 : 0 ≤ b ∧ b ≤ (cn E 64 : Nat) - 1 := by omega
      have key : ∀ s2, recG v E b s2 → ∃ y : Nat, r < y ∧ y < 60 ∧ bt v y = true ∧ (∀ j, r < j → j < y → bt v j = false) ∧ iI s2 340 8 = r + 1 ∧ iI s2 340 9 = (y : Int) - 1 := by
        rintro s2 ⟨p, y, z1, z2, z3, z4, z5, z6, z7, z8⟩
        have : p = r := cn_inj z3 c2 (by omega)
        subst this
        exact ⟨y, z1, z2, z5, z6, z7, z8⟩
      by_cases hz : z = 0
      · rw [if_pos hz, show oI (r : Int) + 1 = oI ((r : Int) + 1) from by rw [oI_lit, oI_add]] at q0
        refine Ans_w hI (L_gap_v q0) fun s1 hI1 F => ?_
        obtain ⟨s2, f1, f2, f3⟩ := ref s1 hI1 F
        obtain ⟨y, -, -, -, -, y5, -⟩ := key s2 (f3 (by omega) (by omega))
        refine ⟨pI s2 340 0 0, ?_, FI_trans f2 (FI_th s2 0), th_z s2⟩
        rw [f1, hin, bd_some, ifB_t hb2]
        unfold B_X8_gap_57
        rw [nx_eq, if_pos (th_0 s2), if_pos hz, gI_oI, iI_pn (Or.inr (by omega)), y5]
      · obtain ⟨y, d1, d2, d3, d4, d5⟩ := X7_nextBusy (fl := fl) (s := s) hfl v (i := r + 1) (by omega)
        rw [if_neg hz, show oI (r : Int) + 1 = oI ((r + 1 : Nat) : Int) from by rw [oI_lit, oI_add]; rfl, d1, bd_some, show oI (y : Int) - 1 = oI ((y : Int) - 1) from by rw [oI_lit, oI_sub]] at q0
        refine Ans_w hI (L_gap_v q0) fun s1 hI1 F => ?_
        obtain ⟨s2, f1, f2, f3⟩ := ref s1 hI1 F
        obtain ⟨y', w1, w2, w3, w4, w5, w6⟩ := key s2 (f3 (by omega) (by omega))
        refine ⟨pI s2 340 0 0, ?_, FI_trans f2 (FI_th s2 0), th_z s2⟩
        have : y' = y := by
          rcases Nat.lt_trichotomy y y' with h | h | h
          · have := d5 (by omega)
            rw [w4 y (by omega) h] at this
            cases this
          · omega
          · have := d4 y' (by omega) h
            rw [w3] at this
            cases this
        rw [f1, hin, bd_some, ifB_t hb2]
        unfold B_X8_gap_57
        rw [nx_eq, if_pos (th_0 s2), if_neg hz, gI_oI, iI_pn (Or.inr (by omega)), w6, this]
    · rw [if_neg (fun q => by have := hr.mp q; omega)] at q0
      obtain ⟨s2, f1, f2, f3⟩ := ref s hI (FG_refl s _)
      have hb2 : ¬ (0 ≤ b ∧ b ≤ (cn E 64 : Nat) - 1) := fun h => by
        obtain ⟨p, y, z1, z2, z3, z4, -⟩ := f3 (by omega) (by omega)
        exact c2 p (by omega) z3 z4
      refine Ans_x (s2 := pI s2 340 0 2) (v := 0) hI (c := 2) (by omega) (by omega) (L_gap_2 q0) ?_ (FI_trans f2 (FI_th s2 2)) rfl
      rw [f1, hin, bd_some, ifB_f hb2]
      unfold B_X8_gap_57
      rw [nx_eq, if_neg (th_n s2 (by decide))]
  · have q1 : F_X7_gap fl 320 (oI a) (oI b) z s = some (.inl 3, s) := by
      unfold F_X7_gap
      rw [rqP_n hs hc (by omega) (by omega) (by omega)]
      rfl
    refine Ans_e hI (c := 1) (v := 0) (by omega) (by omega) (L_gap_1 q1) ?_
    unfold F_X8_gap
    rw [X8_isPitch hs (by omega) (by omega) (by omega), bd_some, ifB_f (by omega)]
    unfold B_X8_gap_14
    rw [nx_eq, if_neg (th_n s (by decide))] <;> rfl
