def BR (S M : Mem) (kd ln br : Int) (r : Int32) : Prop := (r = 1 ∧ ∃ c g k1 k2 : Nat, Bst M (ftM M kd ln br) c g k1 k2 ∧ SL S M (W2 k1 k2) (D2 g k1 k2) c ∧ ∀ i, 1 ≤ i → i ≤ c → iI S 324 i = W2 k1 k2 i) ∨ (r = 0 ∧ ∀ c g a b : Nat, c ≤ 2 → (g : Int) < iI M 341 0 → ftM M kd ln br g → ¬ okL M c g a b)
theorem X5_best10 {fl : Nat} (hfl : 1000 ≤ fl) {M : Mem} {kd ln br : Int} {n : Nat} : ∀ (m c : Nat) (S : Mem) (f : Nat), c + m = 3 → m < f → BG S M kd ln br n → (∀ c' g a b : Nat, c' < c → g < n → ftM M kd ln br g → ¬ okL M c' g a b) →
    ∃ S' r, B_X5_findBestPlan_10 fl f 321 (oI c) S = some (r, S') ∧ FG S S' (fun k j => bpC k j ∨ k = 321 ∧ j = 2) ∧ BR S' M kd ln br r := by
  intro m
  induction m with
  | zero =>
    intro c S f h hf hG hno
    obtain ⟨f, rfl⟩ : ∃ f', f = f' + 1 := ⟨f - 1, by omega⟩
    have h0 := hG.2.2.2.2.2.1
    have e0 := hG.1.2.2.2.2.1.1 0
    refine ⟨S, 0, ?_, FG_refl _ _, Or.inr ⟨rfl, fun c' g a b hc' hg ht ho => hno c' g a b (by omega) (by omega) ht ho⟩⟩
    unfold B_X5_findBestPlan_10
    rw [if_pos (by rw [show (2 : Int32) = oI 2 from rfl, oI_lt (by omega) (by omega) (by omega) (by omega)]; omega)]
  | succ m ih =>
    intro c S f h hf hG hno
    obtain ⟨f, rfl⟩ : ∃ f', f = f' + 1 := ⟨f - 1, by omega⟩
    have h0 := hG.2.2.2.2.2.1
    have e0 := hG.1.2.2.2.2.1.1 0
    have bn := VRn hG.1.2.2.1
    unfold VN at bn
    obtain ⟨S1, e1, F1, y1⟩ := stI S 321 2 (v := c) (by omega) (by omega)
    have F1' : FG S S1 (fun k j => bpC k j ∨ k = 321 ∧ j = 2) := FG_mono F1 (fun k j z => Or.inr z)
    have G1 : BG S1 M kd ln br n := BG_FG F1' (fun _ _ z => z) hG
    have step : B_X5_findBestPlan_10 fl (f + 1) 321 (oI c) S = B_X5_findBestPlan_22 (B_X5_findBestPlan_10 fl f) fl fl 321 (oI c) (oI ((0 : Nat) : Int)) S1 := by
      conv => lhs; unfold B_X5_findBestPlan_10
      rw [if_neg (by rw [show (2 : Int32) = oI 2 from rfl, oI_lt (by omega) (by omega) (by omega) (by omega)]; omega), nx_eq, e1]
      rfl
    rcases X5_best22 (fl := fl) hfl (c := c) (n := n) (by omega) (k10 := B_X5_findBestPlan_10 fl f) n 0 S1 fl G1 y1 (by omega) (by omega) (fun i hi => by omega) with ⟨S', g, k1, k2, x1, x2, x3, x4, x5, x6, x7, x8⟩ | ⟨S', x1, x2, x3⟩
    · refine ⟨S', 1, step.trans x1, FG_trans F1' (FG_mono x2 (fun k j z => Or.inl z)), Or.inl ⟨rfl, c, g, k1, k2, ⟨by omega, by omega, x4, x5, fun c' g' a b hc' hg' ht ho => ?_⟩, x7, x8⟩⟩
      by_cases hcc : c' < c
      · exact absurd ho (hno c' g' a b hcc (by omega) ht)
      · by_cases he : c' = c
        · subst he
          have := x6 g' a b (by omega) ht ho
          omega
        · omega
    · rw [show oI (c : Int) + 1 = oI ((c + 1 : Nat) : Int) from by rw [oI_lit, oI_add]; rfl] at x1
      obtain ⟨S'', r, z1, z2, z3⟩ := ih (c + 1) S' f (by omega) (by omega) (BG_FG x2 (fun k j z => Or.inl z) G1) (fun c' g a b hc' hg ht ho => by
        by_cases he : c' = c
        · subst he
          exact x3 g a b hg ht ho
        · exact hno c' g a b (by omega) hg ht ho)
      exact ⟨S'', r, (step.trans x1).trans z1, FG_trans F1' (FG_trans (FG_mono x2 (fun k j z => Or.inl z)) z2), z3⟩
theorem X5_findBestPlan {fl : Nat} (hfl : 1000 ≤ fl) {S M : Mem} (hB : PB S M) : ∃ S' r, F_X5_findBestPlan fl 321 S = some (r, S') ∧ FG S S' plC ∧ BR S' M (iI S 322 0) (iI S 322 1) (iI S 322 2) r := by
  have bn := VRn hB.2.2.1
  unfold VN at bn
  obtain ⟨S1, a1, a2, a3⟩ := X5_survey (fl := fl) hfl hB
  have B1 : PB S1 M := PB_FG a2 (by unfold plC; omega) hB
  obtain ⟨S2, b1, b2, b3⟩ := X5_sortPitches (fl := fl) hfl B1.1 B1.2.2.1 B1.2.2.2.1
  have B2 : PB S2 M := PB_FG b2 (by unfold plC; omega) B1
  have ear : arM S1 = arM M := funext fun q => by unfold arM; rw [B1.2.2.2.2.1.1, B1.2.2.2.2.1.1]
  have G2 : BG S2 M (iI S 322 0) (iI S 322 1) (iI S 322 2) (iI S1 341 0).toNat := by
    refine ⟨B2, BL_FG b2 (by omega) a3, ?_, ?_, ?_, ?_, by rw [← ear]; exact b3⟩
    · rw [FG_I b2 (by omega), FG_I a2 (by omega)]
    · rw [FG_I b2 (by omega), FG_I a2 (by omega)]
    · rw [FG_I b2 (by omega), FG_I a2 (by omega)]
    · rw [FG_I b2 (by omega), FG_I a2 (by omega)]; omega
  obtain ⟨S', r, z1, z2, z3⟩ := X5_best10 (fl := fl) hfl 3 0 S2 fl rfl (by omega) G2 (fun c' g a b h => by omega)
  refine ⟨S', r, ?_, FG_trans (FG_mono a2 (by unfold plC; omega)) (FG_trans (FG_mono b2 (by unfold plC; omega)) (FG_mono z2 (by unfold bpC plC; omega))), z3⟩
  unfold F_X5_findBestPlan
  rw [a1, bd_some, b1, bd_some]
  exact z1
