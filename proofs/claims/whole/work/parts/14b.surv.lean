def plC (k j : Nat) : Prop := k = 321 ∧ j = 2 ∨ (k = 324 ∨ k = 325 ∨ k = 327) ∧ 1 ≤ j ∨ k = 326 ∨ 328 ≤ k ∧ k ≤ 333
-- the planner's ground: the camp, the new party, the reference's picture of both
def PB (S M : Mem) : Prop := RO S ∧ Cst S ∧ VR (iI S 341) ∧ CR S 0 (iI S 341) ∧ LT S M (iI M 342) (-1) ∧ vF M ∧ iI M 343 12 = iI S 322 4 ∧ iI M 344 12 = iI S 322 5 ∧ iI M 345 12 = iI S 322 3 ∧ gL S 322 6 = mI (iI S 322 4) (iI S 322 5) ∧ 1 ≤ iI S 322 5
theorem LT_cg {s s' M : Mem} {t : Nat → Int} {w : Int} (e : ∀ k, iI s' 341 k = iI s 341 k) (h : LT s M t w) : LT s' M t w := by
  refine ⟨fun k => by rw [e]; exact h.1 k, h.2.1, fun q hq => ?_⟩
  have := h.2.2 q hq
  unfold ldB at this ⊢
  rw [e, e, e, e, e, e]
  exact this
theorem PB_FG {S S' M : Mem} {C : Nat → Nat → Prop} (F : FG S S' C) (hC : ∀ k j, C k j → plC k j) (h : PB S M) : PB S' M := by
  obtain ⟨h1, h2, h3, h4, h5, h6, h7, h8, h9, h10, h11⟩ := h
  have F' : FG S S' plC := FG_mono F hC
  have e : ∀ k, iI S' 341 k = iI S 341 k := fun k => FG_I F' (by unfold plC; omega)
  have hc := Cmp_FG F' (by unfold plC; omega) ⟨h3, h4⟩
  refine ⟨FG_RO F' h1, Cst_FG F' (by unfold plC; omega) h2, hc.1, hc.2, LT_cg e h5, h6, ?_, ?_, ?_, ?_, ?_⟩
  · rw [FG_I F' (by unfold plC; omega)]; exact h7
  · rw [FG_I F' (by unfold plC; omega)]; exact h8
  · rw [FG_I F' (by unfold plC; omega)]; exact h9
  · rw [FG_L F' (by unfold plC; omega), FG_I F' (by unfold plC; omega), FG_I F' (by unfold plC; omega)]; exact h10
  · rw [FG_I F' (by unfold plC; omega)]; exact h11
theorem PB_ld {S M : Mem} (h : PB S M) {q : Nat} (hq : q < 12) (h0 : 0 ≤ iI M 342 q) : ldB S (-1) q := by
  apply Decidable.byContradiction
  intro hn
  have := (h.2.2.2.2.1.2.2 q hq).2 hn
  omega
theorem PB_pl {S M : Mem} (h : PB S M) {q : Nat} (hq : q ≤ 12) : -1 ≤ iI M 342 q ∧ iI M 342 q < iI S 341 0 := by
  obtain ⟨-, -, hv, -, hL, -⟩ := h
  have bn := VRn hv
  unfold VN at bn
  by_cases h12 : q = 12
  · subst h12
    rw [hL.2.1]
    omega
  · by_cases hB : ldB S (-1) q
    · have d := VRq hv (q := q) hB.1
      unfold VQ at d
      rw [((hL.2.2 q (by omega)).1 hB).1]
      omega
    · rw [(hL.2.2 q (by omega)).2 hB]
      omega
theorem PB_ci {S M : Mem} (h : PB S M) {p : Nat} (hp : (p : Int) < iI S 341 0) : ciM M p = iI S 341 (8 + 5 * p + 3) ∧ -1 ≤ ciM M p ∧ ciM M p ≤ 2 := by
  have e : ciM M p = iI S 341 (8 + 5 * p + 3) := by unfold ciM; rw [h.2.2.2.2.1.1, Int.toNat_natCast]
  have d := VRp h.2.2.1 hp
  unfold VP at d
  rw [e]
  omega
theorem X5_addLoadL {fl : Nat} {c : Nat} (hc3 : c < 3) {w : Nat} {f n P : Int} (hw : w < 320) (hf : 0 ≤ f) (hn : 0 ≤ n) (hfn : f + n ≤ 60) (hP : 0 ≤ P) (hP2 : P ≤ 16) : ∀ (m : Nat) (i : Nat) (S : Mem) (k : Nat), (i : Int) + m = f + n → f ≤ i → m < k → RO S → iI S w 4 = f → iI S w 5 = n → iI S w 3 = P → (∀ x, 60 * c + i ≤ x → x < 180 → 0 ≤ iI S 332 x ∧ iI S 332 x ≤ 100000) →
    ∃ S', B_X5_addLoad_5 fl k 321 (oI c) w (oI i) S = some S' ∧ FG S S' (fun k j => k = 332) ∧ ∀ x, x < 180 → iI S' 332 x = iI S 332 x + (if 60 * c + i ≤ x ∧ (x : Int) < 60 * c + (f + n) then P else 0) := by
  intro m
  induction m with
  | zero =>
    intro i S k h h1 hk hs ef en ep hb
    obtain ⟨k, rfl⟩ : ∃ k', k = k' + 1 := ⟨k - 1, by omega⟩
    refine ⟨S, ?_, FG_refl _ _, fun x hx => ?_⟩
    · unfold B_X5_addLoad_5
      simp (disch := omega) only [bd_some, nx_eq, xb_r, xb_l, xc_r, xc_l, oI_lit, oI_nI, oI_add, oI_sub, oI_mul, oI_neg, gI_oI, ldA_I, ldA_L, ldO_I, ldO_L, oB_z, oB_o, gd_oB, lgc0n, oI_litN, ← Int.natCast_add, ← Int.natCast_mul, Int.toNat_natCast, if_true, if_false, oI_le, oI_lt, oI_eq, oI_nat, oI_inR, gd_t, ef, en]
      rw [if_pos (by omega)]
    · rw [if_neg (by omega), Int.add_zero]
  | succ m ih =>
    intro i S k h h1 hk hs ef en ep hb
    obtain ⟨k, rfl⟩ : ∃ k', k = k' + 1 := ⟨k - 1, by omega⟩
    have b := hb (60 * c + i) (by omega) (by omega)
    obtain ⟨S1, e1, F1, y1⟩ := stI S 332 (60 * c + i) (v := iI S 332 (60 * c + i) + P) (by omega) (by omega)
    obtain ⟨S', g1, g2, g3⟩ := ih (i + 1) S1 k (by omega) (by omega) (by omega) (FG_RO F1 hs) (by rw [FG_I F1 (by omega)]; exact ef) (by rw [FG_I F1 (by omega)]; exact en) (by rw [FG_I F1 (by omega)]; exact ep) (fun x h1 h2 => by rw [FG_I F1 (by omega)]; exact hb x (by omega) h2)
    refine ⟨S', ?_, FG_trans (FG_mono F1 (by omega)) g2, fun x hx => ?_⟩
    · unfold B_X5_addLoad_5
      simp (disch := omega) only [bd_some, nx_eq, xb_r, xb_l, xc_r, xc_l, oI_lit, oI_nI, oI_add, oI_sub, oI_mul, oI_neg, gI_oI, ldA_I, ldA_L, ldO_I, ldO_L, oB_z, oB_o, gd_oB, lgc0n, oI_litN, ← Int.natCast_add, ← Int.natCast_mul, Int.toNat_natCast, if_true, if_false, oI_le, oI_lt, oI_eq, oI_nat, oI_inR, gd_t, ef, en, ep, ld_321_12 hs]
      rw [if_neg (by omega)]
      rw [Nat.mul_comm c 60, e1]
      exact g1
    · rw [g3 x hx]
      by_cases hxi : x = 60 * c + i
      · subst hxi
        rw [y1, if_neg (by omega), if_pos (by omega)]
        omega
      · rw [FG_I F1 (by omega)]
        congr 1
        by_cases hz : 60 * c + (i + 1) ≤ x ∧ (x : Int) < 60 * c + (f + n)
        · rw [if_pos hz, if_pos (by omega)]
        · rw [if_neg hz, if_neg (by omega)]
-- what the survey lays: the busy nights of each pitch, the power of each circuit
def BL (S M : Mem) : Prop := (∀ i : Nat, (i : Int) < iI S 341 0 → gL S 330 i = moT M (iI M 342) i (-1)) ∧ ∀ c n, c < 3 → n < 60 → iI S 332 (60 * c + n) = pwT M (iI M 342) c n
theorem sm_snoc (h : Nat → Int) : ∀ (m i : Nat), sm h (m + 1) i = sm h m i + h (i + m) := fun m i => by
  rw [sm_sp h m 1 i, sm_s, sm_0]
  omega
theorem X5_surv60 {fl : Nat} (hfl : 1000 ≤ fl) {M : Mem} : ∀ (m i : Nat) (S : Mem) (k : Nat), PB S M → iI S 341 1 = ((i + m : Nat) : Int) → m < k → (∀ c n, c < 3 → n < 60 → iI S 332 (60 * c + n) = sm (pwH M (iI M 342) c n) i 0) →
    ∃ S', B_X5_survey_60 fl k 321 (oI i) S = some S' ∧ FG S S' (fun k j => k = 332) ∧ ∀ c n, c < 3 → n < 60 → iI S' 332 (60 * c + n) = sm (pwH M (iI M 342) c n) (i + m) 0 := by
  intro m
  induction m with
  | zero =>
    intro i S k hB h hk hl
    obtain ⟨k, rfl⟩ : ∃ k', k = k' + 1 := ⟨k - 1, by omega⟩
    obtain ⟨hs, -, hv, hc, -⟩ := hB
    have bn := VRn hv
    unfold VN at bn
    refine ⟨S, ?_, FG_refl _ _, hl⟩
    unfold B_X5_survey_60
    simp (disch := omega) only [bd_some, nx_eq, xb_r, xb_l, xc_r, xc_l, oI_lit, oI_nI, oI_add, oI_sub, oI_mul, oI_neg, gI_oI, ldA_I, ldA_L, ldO_I, ldO_L, oB_z, oB_o, gd_oB, lgc0n, oI_litN, ← Int.natCast_add, ← Int.natCast_mul, Int.toNat_natCast, if_true, if_false, oI_le, oI_lt, oI_eq, oI_nat, oI_inR, gd_t, ld_00 hs, ld_02 hs, ld_04 hs, ld_06 hs, ld_p hs, ld_q hs, ld_s hs, c_pc hc, c_qc hc, c_sc hc, c_tn hc, c_gp hc, c_lm hc, c_p hc, c_s hc, c_q hc, c_q7 hc, c_q8 hc, c_q9 hc, c_q10 hc, c_qL hc, ld_321_0 hs]
    rw [if_pos (by omega)]
  | succ m ih =>
    intro i S k hB h hk hl
    obtain ⟨k, rfl⟩ : ∃ k', k = k' + 1 := ⟨k - 1, by omega⟩
    have hB' := hB
    obtain ⟨hs, -, hv, hc, hL, hF, -⟩ := hB'
    have bn := VRn hv
    unfold VN at bn
    have d := VRq hv (q := i) (by omega)
    unfold VQ at d
    obtain ⟨p, hpe⟩ : ∃ p : Nat, iI S 341 (50 + 10 * i + 6) = p := ⟨(iI S 341 (50 + 10 * i + 6)).toNat, by omega⟩
    have ci := PB_ci hB (p := p) (by omega)
    have key : ∃ S1, FG S S1 (fun k j => k = 332) ∧ (∀ c n, c < 3 → n < 60 → iI S1 332 (60 * c + n) = sm (pwH M (iI M 342) c n) (i + 1) 0) ∧ B_X5_survey_60 fl (k + 1) 321 (oI i) S = B_X5_survey_60 fl k 321 (oI ((i + 1 : Nat) : Int)) S1 := by
      have hq10 := c_q10 hc (q := i) (by omega)
      by_cases hbk : iI S 341 (50 + 10 * i + 8) = 1 ∧ 0 ≤ iI S 341 (8 + 5 * p + 3)
      · obtain ⟨c, hce⟩ : ∃ c : Nat, iI S 341 (8 + 5 * p + 3) = c := ⟨(iI S 341 (8 + 5 * p + 3)).toNat, by omega⟩
        have hld : ldB S (-1) i := ⟨by omega, hbk.1, by omega⟩
        have e := (hL.2.2 i (by omega)).1 hld
        obtain ⟨S1, g1, g2, g3⟩ := X5_addLoadL (fl := fl) (c := c) (by omega) (w := 9 + i) (f := iI S 341 (50 + 10 * i + 4)) (n := iI S 341 (50 + 10 * i + 5)) (P := iI S 341 (50 + 10 * i + 3)) (by omega) (by omega) (by omega) (by omega) (by omega) (by omega) (iI S 341 (50 + 10 * i + 5)).toNat (iI S 341 (50 + 10 * i + 4)).toNat S fl (by omega) (by omega) (by omega) hs (c_q hc (by omega) (by decide)) (c_q hc (by omega) (by decide)) (c_q hc (by omega) (by decide)) (fun x h1 h2 => by
          have := hl (x / 60) (x % 60) (by omega) (by omega)
          rw [show 60 * (x / 60) + x % 60 = x by omega] at this
          rw [this]
          have := sm_bd (h := pwH M (iI M 342) (x / 60 : Nat) (x % 60 : Nat)) (b := 16) i 0 (fun q _ h => pwH_bd hF _ _ _ (by omega))
          omega)
        refine ⟨S1, g2, fun c' n hc' hn => ?_, ?_⟩
        · rw [g3 _ (by omega), hl c' n hc' hn, sm_snoc, Nat.zero_add]
          congr 1
          unfold pwH
          rw [e.1, hpe, e.2.1, e.2.2.1, e.2.2.2, ci.1, hce]
          by_cases hz : c' = c ∧ iI S 341 (50 + 10 * i + 4) ≤ n ∧ (n : Int) < iI S 341 (50 + 10 * i + 4) + iI S 341 (50 + 10 * i + 5)
          · rw [if_pos (by omega), if_pos (by omega)]
          · rw [if_neg (by omega), if_neg (by omega)]
        · rw [show oI (((iI S 341 (50 + 10 * i + 4)).toNat : Nat) : Int) = oI (iI S 341 (50 + 10 * i + 4)) from congrArg oI (by omega)] at g1
          have e4 := c_q hc (q := i) (f := 4) (by omega) (by decide)
          conv => lhs; unfold B_X5_survey_60 B_X5_survey_113 F_X5_addLoad
          simp (disch := omega) only [bd_some, nx_eq, xb_r, xb_l, xc_r, xc_l, oI_lit, oI_nI, oI_add, oI_sub, oI_mul, oI_neg, gI_oI, ldA_I, ldA_L, ldO_I, ldO_L, oB_z, oB_o, gd_oB, lgc0n, oI_litN, ← Int.natCast_add, ← Int.natCast_mul, Int.toNat_natCast, if_true, if_false, oI_le, oI_lt, oI_eq, oI_nat, oI_inR, gd_t, ld_00 hs, ld_02 hs, ld_04 hs, ld_06 hs, ld_p hs, ld_q hs, ld_s hs, c_pc hc, c_qc hc, c_sc hc, c_tn hc, c_gp hc, c_lm hc, c_p hc, c_s hc, c_q hc, c_q7 hc, c_q8 hc, c_q9 hc, c_q10 hc, c_qL hc, ld_321_0 hs, hpe, X1_circuitOf hs hc, X7_isCircuit, hce, g1]
          rw [if_neg (by omega), if_neg (by omega), if_neg (by omega)]
      · refine ⟨S, FG_refl _ _, fun c' n hc' hn => ?_, ?_⟩
        · rw [hl c' n hc' hn, sm_snoc, Nat.zero_add]
          have : pwH M (iI M 342) c' n i = 0 := by
            unfold pwH
            by_cases hld : ldB S (-1) i
            · have e := (hL.2.2 i (by omega)).1 hld
              rw [e.1, hpe, ci.1, if_neg]
              unfold ldB at hld
              omega
            · have e := (hL.2.2 i (by omega)).2 hld
              rw [if_neg (by omega)]
          omega
        · conv => lhs; unfold B_X5_survey_60 B_X5_survey_113
          simp (disch := omega) only [bd_some, nx_eq, xb_r, xb_l, xc_r, xc_l, oI_lit, oI_nI, oI_add, oI_sub, oI_mul, oI_neg, gI_oI, ldA_I, ldA_L, ldO_I, ldO_L, oB_z, oB_o, gd_oB, lgc0n, oI_litN, ← Int.natCast_add, ← Int.natCast_mul, Int.toNat_natCast, if_true, if_false, oI_le, oI_lt, oI_eq, oI_nat, oI_inR, gd_t, ld_00 hs, ld_02 hs, ld_04 hs, ld_06 hs, ld_p hs, ld_q hs, ld_s hs, c_pc hc, c_qc hc, c_sc hc, c_tn hc, c_gp hc, c_lm hc, c_p hc, c_s hc, c_q hc, c_q7 hc, c_q8 hc, c_q9 hc, c_q10 hc, c_qL hc, ld_321_0 hs, hpe, X1_circuitOf hs hc, X7_isCircuit]
          rw [if_neg (by omega)]
          by_cases h8 : iI S 341 (50 + 10 * i + 8) = 0
          · rw [if_pos (by omega)]
          · rw [if_neg (by omega), if_pos (by omega)]
    obtain ⟨S1, k1, k2, k3⟩ := key
    have hB1 : PB S1 M := PB_FG k1 (by unfold plC; omega) hB
    obtain ⟨S', g1, g2, g3⟩ := ih (i + 1) S1 k hB1 (by rw [FG_I k1 (by omega), h]; congr 1; omega) (by omega) k2
    refine ⟨S', by rw [k3]; exact g1, FG_trans k1 g2, fun c n hc hn => ?_⟩
    rw [show i + (m + 1) = i + 1 + m by omega]
    exact g3 c n hc hn
theorem X5_surv36 {fl : Nat} (hfl : 1000 ≤ fl) {M : Mem} : ∀ (m i : Nat) (S : Mem) (k : Nat), PB S M → i + m = 180 → m < k → (∀ x, x < i → iI S 332 x = 0) →
    ∃ S', B_X5_survey_36 fl k 321 (oI i) S = some S' ∧ FG S S' (fun k j => k = 332) ∧ ∀ c n, c < 3 → n < 60 → iI S' 332 (60 * c + n) = pwT M (iI M 342) c n := by
  intro m
  induction m with
  | zero =>
    intro i S k hB h hk hz
    obtain ⟨k, rfl⟩ : ∃ k', k = k' + 1 := ⟨k - 1, by omega⟩
    have hB' := hB
    obtain ⟨hs, -, hv, hc, hL, hF, -⟩ := hB'
    have bn := VRn hv
    unfold VN at bn
    obtain ⟨S', g1, g2, g3⟩ := X5_surv60 (fl := fl) hfl (M := M) (iI S 341 1).toNat 0 S fl hB (by omega) (by omega) (fun c n hc hn => by rw [hz _ (by omega), sm_0])
    refine ⟨S', ?_, g2, fun c n hc hn => ?_⟩
    · unfold B_X5_survey_36
      simp (disch := omega) only [bd_some, nx_eq, xb_r, xb_l, xc_r, xc_l, oI_lit, oI_nI, oI_add, oI_sub, oI_mul, oI_neg, gI_oI, ldA_I, ldA_L, ldO_I, ldO_L, oB_z, oB_o, gd_oB, lgc0n, oI_litN, ← Int.natCast_add, ← Int.natCast_mul, Int.toNat_natCast, if_true, if_false, oI_le, oI_lt, oI_eq, oI_nat, oI_inR, gd_t, ld_321_12 hs]
      rw [if_pos (by omega)]
      exact g1
    · rw [g3 c n hc hn]
      unfold pwT
      refine (sm_13 (by omega) (fun q _ => rfl) (fun q h1 h2 => ?_)).symm
      unfold pwH
      rw [if_neg]
      have : iI M 342 q = -1 := by
        by_cases h12 : q = 12
        · subst h12; exact hL.2.1
        · exact (hL.2.2 q (by omega)).2 (by unfold ldB; omega)
      omega
  | succ m ih =>
    intro i S k hB h hk hz
    obtain ⟨k, rfl⟩ : ∃ k', k = k' + 1 := ⟨k - 1, by omega⟩
    have hs := hB.1
    obtain ⟨S1, e1, F1, y1⟩ := stI S 332 i (v := 0) (by omega) (by omega)
    obtain ⟨S', g1, g2, g3⟩ := ih (i + 1) S1 k (PB_FG F1 (by unfold plC; omega) hB) (by omega) (by omega) (fun x hx => by
      by_cases hxi : x = i
      · subst hxi; exact y1
      · rw [FG_I F1 (by omega)]; exact hz x (by omega))
    refine ⟨S', ?_, FG_trans (FG_mono F1 (by omega)) g2, g3⟩
    unfold B_X5_survey_36
    rw [ld_321_12 hs, bd_some, if_neg (by rw [oI_nI, oI_le (by decide) (by decide) (by omega) (by omega)]; show ¬ (180 : Int) ≤ _; omega), bd_some]
    dsimp only
    rw [gd_t ((oI_inR (by omega) (by omega)).mpr (by omega)), nx_eq, oI_nat (by omega) (by omega), Int.toNat_natCast, show (0 : Int32) = oI 0 from rfl, e1, show oI (i : Int) + 1 = oI ((i + 1 : Nat) : Int) from by rw [oI_lit, oI_add]; rfl]
    exact g1
theorem X5_surv2 {fl : Nat} (hfl : 1000 ≤ fl) {M : Mem} : ∀ (m i : Nat) (S : Mem) (k : Nat), PB S M → iI S 341 0 = ((i + m : Nat) : Int) → m < k → (∀ x : Nat, x < i → gL S 330 x = moT M (iI M 342) x (-1)) →
    ∃ S', B_X5_survey_2 fl k 321 (oI i) S = some S' ∧ FG S S' (fun k j => k = 330 ∨ k = 332) ∧ BL S' M := by
  intro m
  induction m with
  | zero =>
    intro i S k hB h hk hz
    obtain ⟨k, rfl⟩ : ∃ k', k = k' + 1 := ⟨k - 1, by omega⟩
    have hB' := hB
    obtain ⟨hs, -, hv, hc, hL, hF, -⟩ := hB'
    obtain ⟨S', g1, g2, g3⟩ := X5_surv36 (fl := fl) hfl (M := M) 180 0 S fl hB rfl (by omega) (fun x hx => by omega)
    refine ⟨S', ?_, FG_mono g2 (by omega), fun x hx => ?_, g3⟩
    · unfold B_X5_survey_2
      rw [ld_321_0 hs, bd_some, gI_oI, c_pc hc, if_pos (by rw [h, oI_le (by have := VRn hv; unfold VN at this; omega) (by have := VRn hv; unfold VN at this; omega) (by have := VRn hv; unfold VN at this; omega) (by have := VRn hv; unfold VN at this; omega)]; omega)]
      exact g1
    · rw [FG_I g2 (by omega)] at hx
      rw [FG_L g2 (by omega)]
      exact hz x (by omega)
  | succ m ih =>
    intro i S k hB h hk hz
    obtain ⟨k, rfl⟩ : ∃ k', k = k' + 1 := ⟨k - 1, by omega⟩
    have hB' := hB
    obtain ⟨hs, -, hv, hc, hL, hF, -⟩ := hB'
    have bn := VRn hv
    unfold VN at bn
    obtain ⟨S1, e1, F1, y1⟩ := stL S 330 i (moT M (iI M 342) i (-1))
    obtain ⟨S', g1, g2, g3⟩ := ih (i + 1) S1 k (PB_FG F1 (by unfold plC; omega) hB) (by rw [FG_I F1 (by omega), h]; congr 1; omega) (by omega) (fun x hx => by
      by_cases hxi : x = i
      · subst hxi; exact y1
      · rw [FG_L F1 (by omega)]; exact hz x (by omega))
    refine ⟨S', ?_, FG_trans (FG_mono F1 (by omega)) g2, g3⟩
    unfold B_X5_survey_2
    rw [ld_321_0 hs, bd_some, gI_oI, c_pc hc, if_neg (by rw [oI_le (by omega) (by omega) (by omega) (by omega)]; omega), ld_321_10 hs, bd_some, bd_some, m1_o, X1_busyNights hfl hs hc hv hL hF (by omega) (by omega) (by omega) (by omega), bd_some]
    dsimp only
    rw [gd_t ((oI_inR (by omega) (by omega)).mpr (by omega)), nx_eq, oI_nat (by omega) (by omega), Int.toNat_natCast, e1, show oI (i : Int) + 1 = oI ((i + 1 : Nat) : Int) from by rw [oI_lit, oI_add]; rfl]
    exact g1
theorem X5_survey {fl : Nat} (hfl : 1000 ≤ fl) {S M : Mem} (hB : PB S M) : ∃ S', F_X5_survey fl 321 S = some S' ∧ FG S S' (fun k j => k = 330 ∨ k = 332) ∧ BL S' M := by
  have bn := VRn hB.2.2.1
  unfold VN at bn
  unfold F_X5_survey
  exact X5_surv2 hfl (iI S 341 0).toNat 0 S fl hB (by omega) (by omega) (fun x hx => by omega)
