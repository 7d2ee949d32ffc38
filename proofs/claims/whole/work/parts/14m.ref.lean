-- the reference's search: M is the ground, M' a state of the search
def MB (M : Mem) : Prop := VR (iI M 341) ∧ vF M ∧ 1 ≤ iI M 344 12 ∧ ∀ q, q ≤ 12 → -1 ≤ iI M 342 q ∧ iI M 342 q < iI M 341 0
def RSt (M M' : Mem) (t : Nat → Int) (d : Nat) (mv : Nat → Nat) : Prop := RO M' ∧ AG M M' ∧ (∀ q, q ≤ 12 → iI M' 342 q = t q) ∧ iI M' 340 10 = gaT M (iI M 342) ∧ iI M' 340 11 = d ∧ ∀ i, i < d → iI M' 346 i = mv i
def rsC (k j : Nat) : Prop := k = 342 ∧ j ≤ 12 ∨ k = 346 ∨ k = 340 ∧ j = 11
theorem RSt_cg {M M' : Mem} {t t' : Nat → Int} {d : Nat} {mv mv' : Nat → Nat} (ht : ∀ q, q ≤ 12 → t' q = t q) (hm : ∀ i, i < d → mv' i = mv i) (h : RSt M M' t d mv) : RSt M M' t' d mv' := by
  obtain ⟨h1, h2, h3, h4, h5, h6⟩ := h
  exact ⟨h1, h2, fun q hq => by rw [h3 q hq, ht q hq], h4, h5, fun i hi => by rw [h6 i hi, hm i hi]⟩
def RCt (M : Mem) (t : Nat → Int) (W : Nat → Nat) (c : Nat) : Prop := (∀ i, i < c + 1 → alT M t (W i)) ∧ slT M t ∧ (∀ i, i < c + 1 → hpT M t (W i)) ∧ gaT M t ≤ gaT M (iI M 342)
theorem X8_right62 {fl : Nat} (hfl : 1000 ≤ fl) {M M' : Mem} {t : Nat → Int} {c : Nat} {W : Nat → Nat} (hM : MB M) (hR : RSt M M' t c (fun i => W (i + 1))) (hc : c ≤ 2) (hW : ∀ i, i ≤ c → W i ≤ 12) (hT : ∀ q, q ≤ 12 → -1 ≤ t q ∧ t q < iI M 341 0) (hD : ∀ i, i ≤ c → 0 ≤ t (W i)) (hal : ∀ i, i < c + 1 → alT M t (W i)) (hsl : slT M t) : ∀ (m i f : Nat), i + m = c → m < f → (∀ k, k < i + 1 → hpT M t (W k)) →
    ∃ b, B_X8_isRight_62 fl f 340 (oI i) M' = some (b, M') ∧ (b = 1 ∧ RCt M t W c ∨ b = 0 ∧ ¬ RCt M t W c) := by
  obtain ⟨hv, hF, hn1, hpl⟩ := hM
  obtain ⟨r1, r2, r3, r4, r5, r6⟩ := hR
  have bn := VRn hv
  unfold VN at bn
  have hF' : vF M' := vF_cg r2 hF
  have hvT : vT M' := vT_of hF' (fun q hq => by rw [r3 q hq]; have := hT q hq; omega)
  intro m
  induction m with
  | zero =>
    intro i f h hf hhp
    obtain ⟨f, rfl⟩ : ∃ f', f = f' + 1 := ⟨f - 1, by omega⟩
    have ga := X8_gapsOfAll (fl := fl) hfl r1 (by rw [r2.1]; omega) (by rw [r2.1]; omega) (by rw [r2.1]; omega) (by rw [r2.1]; omega)
    have eg : gA M' = gaT M t := by rw [gA_T, gaT_cg r2 r3]
    have gb := gA_b (s := M') (by rw [r2.1]; omega)
    have lo := iI_lo M' 340 10
    have hi := iI_hi M' 340 10
    rw [eg] at ga gb
    rw [r4] at lo hi
    have e : B_X8_isRight_62 fl (f + 1) 340 (oI i) M' = (if oI (gaT M (iI M 342)) < oI (gaT M t) then some ((0 : Int32), M') else some ((1 : Int32), M')) := by
      unfold B_X8_isRight_62
      rw [show gI M' 340 11 = oI (c : Int) from by rw [gI_oI, r5], if_pos (by rw [oI_le (by omega) (by omega) (by omega) (by omega)]; omega), ga, bd_some]
      dsimp only
      rw [show gI M' 340 10 = oI (gaT M (iI M 342)) from by rw [gI_oI, r4]]
    by_cases hg : gaT M t ≤ gaT M (iI M 342)
    · refine ⟨1, ?_, Or.inl ⟨rfl, hal, hsl, fun k hk => hhp k (by omega), hg⟩⟩
      rw [e, if_neg (by rw [oI_lt (by omega) (by omega) (by omega) (by omega)]; omega)]
    · refine ⟨0, ?_, Or.inr ⟨rfl, fun z => hg z.2.2.2⟩⟩
      rw [e, if_pos (by rw [oI_lt (by omega) (by omega) (by omega) (by omega)]; omega)]
  | succ m ih =>
    intro i f h hf hhp
    obtain ⟨f, rfl⟩ : ∃ f', f = f' + 1 := ⟨f - 1, by omega⟩
    have w12 := hW (i + 1) (by omega)
    have tw := hT (W (i + 1)) w12
    have dw := hD (i + 1) (by omega)
    have dp := VRp hv (p := (t (W (i + 1))).toNat) (by omega)
    unfold VP at dp
    have fw := hF (W (i + 1)) w12
    have hp := X8_hasPower (fl := fl) hfl r1 hvT (q := W (i + 1)) w12 (by rw [r3 _ w12]; exact dw) (by rw [r3 _ w12, r2.1]; omega) (by rw [(r2.2 _ w12).1, (r2.2 _ w12).2.1]; omega)
    have e : B_X8_isRight_62 fl (f + 1) 340 (oI i) M' = (if oB (hpP M' (W (i + 1))) = 0 then some ((0 : Int32), M') else B_X8_isRight_62 fl f 340 (oI ((i + 1 : Nat) : Int)) M') := by
      conv => lhs; unfold B_X8_isRight_62
      rw [show gI M' 340 11 = oI (c : Int) from by rw [gI_oI, r5], if_neg (by rw [oI_le (by omega) (by omega) (by omega) (by omega)]; omega), ld_340_12 r1, bd_some, gd_t ((oI_inR (by omega) (by omega)).mpr (by omega))]
      dsimp only
      rw [show (oI (i : Int)).toNatClampNeg = i from by rw [oI_nat (by omega) (by omega)]; rfl, show gI M' 346 i = oI (W (i + 1) : Int) from by rw [gI_oI, r6 i (by omega)], hp, bd_some, show oI (i : Int) + 1 = oI ((i + 1 : Nat) : Int) from by rw [oI_lit, oI_add]; rfl]
    have eq : hpP M' (W (i + 1)) ↔ hpT M t (W (i + 1)) := (hp_T M' _).trans (hpT_cg r2 r3 w12)
    by_cases hh : hpT M t (W (i + 1))
    · rw [e, ifB_t (eq.mpr hh)]
      exact ih (i + 1) f (by omega) (by omega) (fun k hk => by
        by_cases hki : k = i + 1
        · subst hki; exact hh
        · exact hhp k (by omega))
    · rw [e, ifB_f (fun z => hh (eq.mp z))]
      exact ⟨0, rfl, Or.inr ⟨rfl, fun z => hh (z.2.2.1 (i + 1) (by omega))⟩⟩
theorem X8_right13 {fl : Nat} (hfl : 1000 ≤ fl) {M M' : Mem} {t : Nat → Int} {c : Nat} {W : Nat → Nat} (hM : MB M) (hR : RSt M M' t c (fun i => W (i + 1))) (hc : c ≤ 2) (hW0 : W 0 = 12) (hW : ∀ i, i ≤ c → W i ≤ 12) (hT : ∀ q, q ≤ 12 → -1 ≤ t q ∧ t q < iI M 341 0) (hD : ∀ i, i ≤ c → 0 ≤ t (W i)) : ∀ (m i f : Nat), i + m = c → m < f → (∀ k, k < i + 1 → alT M t (W k)) →
    ∃ b, B_X8_isRight_13 fl f 340 (oI i) M' = some (b, M') ∧ (b = 1 ∧ RCt M t W c ∨ b = 0 ∧ ¬ RCt M t W c) := by
  have hM' := hM
  have hR' := hR
  obtain ⟨hv, hF, hn1, hpl⟩ := hM'
  obtain ⟨r1, r2, r3, r4, r5, r6⟩ := hR'
  have bn := VRn hv
  unfold VN at bn
  have hF' : vF M' := vF_cg r2 hF
  have hvT : vT M' := vT_of hF' (fun q hq => by rw [r3 q hq]; have := hT q hq; omega)
  intro m
  induction m with
  | zero =>
    intro i f h hf hal
    obtain ⟨f, rfl⟩ : ∃ f', f = f' + 1 := ⟨f - 1, by omega⟩
    have tw := hT 12 (by omega)
    have dw := hD 0 (by omega)
    rw [hW0] at dw
    have dp := VRp hv (p := (t 12).toNat) (by omega)
    unfold VP at dp
    have fw := hF 12 (by omega)
    have hp := X8_hasPower (fl := fl) hfl r1 hvT (q := 12) (by omega) (by rw [r3 _ (by omega)]; exact dw) (by rw [r3 _ (by omega), r2.1]; omega) (by rw [(r2.2 _ (by omega)).1, (r2.2 _ (by omega)).2.1]; omega)
    have hs := X8_staysLong (fl := fl) hfl r1 (VR_vS (s := M') (by rw [show iI M' 341 = iI M 341 from funext r2.1]; exact hv)) (by rw [(r2.2 12 (by omega)).1]; omega) (by rw [(r2.2 12 (by omega)).1]; omega) (by rw [(r2.2 12 (by omega)).2.1]; omega) (by rw [(r2.2 12 (by omega)).2.1]; omega)
    have eq1 : hpP M' 12 ↔ hpT M t 12 := (hp_T M' _).trans (hpT_cg r2 r3 (by omega))
    have eq2 : slP M' ↔ slT M t := (sl_T M').trans (slT_cg r2 r3)
    have e : B_X8_isRight_13 fl (f + 1) 340 (oI i) M' = (if oB (hpP M' 12) = 0 then some ((0 : Int32), M') else if oB (slP M') = 0 then some ((0 : Int32), M') else B_X8_isRight_62 fl fl 340 (oI ((0 : Nat) : Int)) M') := by
      unfold B_X8_isRight_13
      rw [show gI M' 340 11 = oI (c : Int) from by rw [gI_oI, r5], if_pos (by rw [oI_le (by omega) (by omega) (by omega) (by omega)]; omega), show F_X8_hasPower fl 340 12 M' = _ from hp, bd_some, hs, bd_some]
      rfl
    by_cases h1 : hpT M t 12
    · by_cases h2 : slT M t
      · rw [e, ifB_t (eq1.mpr h1), ifB_t (eq2.mpr h2)]
        exact X8_right62 hfl hM hR hc hW hT hD (fun k hk => hal k (by omega)) h2 c 0 fl (by omega) (by omega) (fun k hk => by
          have : k = 0 := by omega
          subst this
          rw [hW0]; exact h1)
      · rw [e, ifB_t (eq1.mpr h1), ifB_f (fun z => h2 (eq2.mp z))]
        exact ⟨0, rfl, Or.inr ⟨rfl, fun z => h2 z.2.1⟩⟩
    · rw [e, ifB_f (fun z => h1 (eq1.mp z))]
      refine ⟨0, rfl, Or.inr ⟨rfl, fun z => h1 ?_⟩⟩
      have := z.2.2.1 0 (by omega)
      rwa [hW0] at this
  | succ m ih =>
    intro i f h hf hal
    obtain ⟨f, rfl⟩ : ∃ f', f = f' + 1 := ⟨f - 1, by omega⟩
    have w12 := hW (i + 1) (by omega)
    have ha := X8_isAlone (fl := fl) hfl r1 w12
    have e : B_X8_isRight_13 fl (f + 1) 340 (oI i) M' = (if oB (alP M' (W (i + 1))) = 0 then some ((0 : Int32), M') else B_X8_isRight_13 fl f 340 (oI ((i + 1 : Nat) : Int)) M') := by
      conv => lhs; unfold B_X8_isRight_13
      rw [show gI M' 340 11 = oI (c : Int) from by rw [gI_oI, r5], if_neg (by rw [oI_le (by omega) (by omega) (by omega) (by omega)]; omega), ld_340_12 r1, bd_some, gd_t ((oI_inR (by omega) (by omega)).mpr (by omega))]
      dsimp only
      rw [show (oI (i : Int)).toNatClampNeg = i from by rw [oI_nat (by omega) (by omega)]; rfl, show gI M' 346 i = oI (W (i + 1) : Int) from by rw [gI_oI, r6 i (by omega)], ha, bd_some, show oI (i : Int) + 1 = oI ((i + 1 : Nat) : Int) from by rw [oI_lit, oI_add]; rfl]
    have eq : alP M' (W (i + 1)) ↔ alT M t (W (i + 1)) := (al_T M' _).trans (alT_cg r2 r3 w12)
    by_cases hh : alT M t (W (i + 1))
    · rw [e, ifB_t (eq.mpr hh)]
      exact ih (i + 1) f (by omega) (by omega) (fun k hk => by
        by_cases hki : k = i + 1
        · subst hki; exact hh
        · exact hal k (by omega))
    · rw [e, ifB_f (fun z => hh (eq.mp z))]
      exact ⟨0, rfl, Or.inr ⟨rfl, fun z => hh (z.1 (i + 1) (by omega))⟩⟩
theorem X8_isRight {fl : Nat} (hfl : 1000 ≤ fl) {M M' : Mem} {t : Nat → Int} {c : Nat} {W : Nat → Nat} (hM : MB M) (hR : RSt M M' t c (fun i => W (i + 1))) (hc : c ≤ 2) (hW0 : W 0 = 12) (hW : ∀ i, i ≤ c → W i ≤ 12) (hT : ∀ q, q ≤ 12 → -1 ≤ t q ∧ t q < iI M 341 0) (hD : ∀ i, i ≤ c → 0 ≤ t (W i)) :
    ∃ b, F_X8_isRight fl 340 M' = some (b, M') ∧ (b = 1 ∧ RCt M t W c ∨ b = 0 ∧ ¬ RCt M t W c) := by
  have ha := X8_isAlone (fl := fl) hfl hR.1 (q := 12) (by omega)
  have eq : alP M' 12 ↔ alT M t 12 := (al_T M' _).trans (alT_cg hR.2.1 hR.2.2.1 (by omega))
  have e : F_X8_isRight fl 340 M' = (if oB (alP M' 12) = 0 then some ((0 : Int32), M') else B_X8_isRight_13 fl fl 340 (oI ((0 : Nat) : Int)) M') := by
    unfold F_X8_isRight
    rw [show F_X8_isAlone fl 340 12 M' = _ from ha, bd_some]
    rfl
  by_cases hh : alT M t 12
  · rw [e, ifB_t (eq.mpr hh)]
    exact X8_right13 hfl hM hR hc hW0 hW hT hD c 0 fl (by omega) (by omega) (fun k hk => by
      have : k = 0 := by omega
      subst this
      rw [hW0]; exact hh)
  · rw [e, ifB_f (fun z => hh (eq.mp z))]
    refine ⟨0, rfl, Or.inr ⟨rfl, fun z => hh ?_⟩⟩
    have := z.1 0 (by omega)
    rwa [hW0] at this
