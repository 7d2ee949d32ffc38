theorem Cmp_book {s s' : Mem} (hC : Cmp s) {x : Nat} (hx : iI s 341 1 = x) (hx12 : x < 12) {P : Nat → Int} (e : ∀ k, k < 170 → ¬ (k = 1 ∨ 50 ≤ k ∧ k < 50 + 10 * x ∧ k % 10 = 6 ∨ 50 + 10 * x ≤ k ∧ k < 50 + 10 * x + 10) → iI s' 341 k = iI s 341 k) (f : ∀ k j, k ≤ 26 → ¬ (k = 0 ∧ j = 3 ∨ 9 ≤ k ∧ k < 9 + x ∧ j = 7 ∨ k = 9 + x) → iI s' k j = iI s k j) (fL : ∀ k, k ≤ 26 → ¬ (k = 9 + x) → gL s' k 6 = gL s k 6) (h1 : iI s' 341 1 = ((x + 1 : Nat) : Int)) (h6 : ∀ q, q < x → iI s' 341 (50 + 10 * q + 6) = P q) (g3 : iI s' 0 3 = ((x + 1 : Nat) : Int)) (g7 : ∀ q, q < x → iI s' (9 + q) 7 = P q) (hPR : PR s' (9 + x) (iI s' 341) x) (hVQ : VQ (iI s' 341) x) (hP : ∀ q, q < x → 0 ≤ P q ∧ P q < iI s 341 0) (hVD : VD (iI s' 341)) : Cmp s' := by
  obtain ⟨hv, hc⟩ := hC
  have bn := VRn hv
  unfold VN at bn
  have h_pc : iI s' 0 1 = iI s' 341 0 := by
    rw [f 0 1 (by omega) (by omega), e 0 (by omega) (by omega)]
    exact c_pc hc
  have h_qc : iI s' 0 3 = iI s' 341 1 := by
    rw [h1, g3]
  have h_sc : iI s' 0 5 = iI s' 341 2 := by
    rw [f 0 5 (by omega) (by omega), e 2 (by omega) (by omega)]
    exact c_sc hc
  have h_tn : iI s' 0 8 = iI s' 341 3 := by
    rw [f 0 8 (by omega) (by omega), e 3 (by omega) (by omega)]
    exact c_tn hc
  have h_gp : iI s' 0 7 = iI s' 341 4 := by
    rw [f 0 7 (by omega) (by omega), e 4 (by omega) (by omega)]
    exact c_gp hc
  have h_lm : ∀ c, c < 3 → iI s' 26 c = iI s' 341 (5 + c) := fun c hc3 => by
    rw [f 26 c (by omega) (by omega), e (5 + c) (by omega) (by omega)]
    exact c_lm hc hc3
  have h_p : ∀ p i : Nat, (p : Int) < iI s' 341 0 → i < 5 → iI s' (2 + p) i = iI s' 341 (8 + 5 * p + i) := fun p i hp hi => by
    rw [e 0 (by omega) (by omega)] at hp
    rw [f (2 + p) i (by omega) (by omega), e (8 + 5 * p + i) (by omega) (by omega)]
    exact c_p hc hp hi
  have h_s : ∀ p i : Nat, (p : Int) < iI s' 341 2 → i < 3 → iI s' (22 + p) i = iI s' 341 (38 + 3 * p + i) := fun p i hp hi => by
    rw [e 2 (by omega) (by omega)] at hp
    rw [f (22 + p) i (by omega) (by omega), e (38 + 3 * p + i) (by omega) (by omega)]
    exact c_s hc hp hi
  have h_q : ∀ q : Nat, (q : Int) < iI s' 341 1 → PR s' (9 + q) (iI s' 341) q := fun q hq => by
    rw [h1] at hq
    by_cases h : q = x
    · subst h; exact hPR
    · refine ⟨fun i hi => ?_, ?_, ?_, ?_, ?_, ?_⟩
      · rw [f (9 + q) i (by omega) (by omega), e (50 + 10 * q + i) (by omega) (by omega)]; exact c_q hc (by omega) hi
      · rw [fL (9 + q) (by omega) (by omega), e (50 + 10 * q + 4) (by omega) (by omega), e (50 + 10 * q + 5) (by omega) (by omega)]; exact c_qL hc (by omega)
      · rw [g7 q (by omega), h6 q (by omega)]
      · rw [f (9 + q) 8 (by omega) (by omega), e (50 + 10 * q + 7) (by omega) (by omega)]; exact c_q8 hc (by omega)
      · rw [f (9 + q) 9 (by omega) (by omega), e (50 + 10 * q + 9) (by omega) (by omega)]; exact c_q9 hc (by omega)
      · rw [f (9 + q) 10 (by omega) (by omega), e (50 + 10 * q + 8) (by omega) (by omega)]; exact c_q10 hc (by omega)
  have h_vn : VN (iI s' 341) := by
    unfold VN
    rw [h1, e 0 (by omega) (by omega), e 2 (by omega) (by omega), e 3 (by omega) (by omega), e 4 (by omega) (by omega)]
    omega
  have h_vl : ∀ c, c < 3 → 0 ≤ iI s' 341 (5 + c) ∧ iI s' 341 (5 + c) ≤ 40 := fun c hc3 => by
    rw [e (5 + c) (by omega) (by omega)]
    exact VRc hv hc3
  have h_vp : ∀ p : Nat, (p : Int) < iI s' 341 0 → VP (iI s' 341) p := fun p hp => by
    rw [e 0 (by omega) (by omega)] at hp
    have d := VRp hv hp
    unfold VP at d ⊢
    rw [e (8 + 5 * p + 0) (by omega) (by omega), e (8 + 5 * p + 1) (by omega) (by omega), e (8 + 5 * p + 2) (by omega) (by omega), e (8 + 5 * p + 3) (by omega) (by omega), e (8 + 5 * p + 4) (by omega) (by omega)]
    exact d
  have h_vs : ∀ j, j < 4 → VS (iI s' 341) j := fun j hj => by
    have d := VRs hv hj
    unfold VS at d ⊢
    rw [e (38 + 3 * j + 0) (by omega) (by omega), e (38 + 3 * j + 1) (by omega) (by omega), e (38 + 3 * j + 2) (by omega) (by omega)]
    exact d
  have h_vq : ∀ q : Nat, (q : Int) < iI s' 341 1 → VQ (iI s' 341) q := fun q hq => by
    rw [h1] at hq
    by_cases h : q = x
    · subst h; exact hVQ
    · have d := VRq hv (q := q) (by omega)
      have p := hP q (by omega)
      unfold VQ at d ⊢
      rw [e (50 + 10 * q + 0) (by omega) (by omega), e (50 + 10 * q + 1) (by omega) (by omega), e (50 + 10 * q + 2) (by omega) (by omega), e (50 + 10 * q + 3) (by omega) (by omega), e (50 + 10 * q + 4) (by omega) (by omega), e (50 + 10 * q + 5) (by omega) (by omega), e (50 + 10 * q + 7) (by omega) (by omega), e (50 + 10 * q + 8) (by omega) (by omega), e (50 + 10 * q + 9) (by omega) (by omega), h6 q (by omega), e 0 (by omega) (by omega)]
      omega
  have h_vd : VD (iI s' 341) := fun q r hq hr hne hb1 hb2 hat => by
    exact hVD q r hq hr hne hb1 hb2 hat
  refine ⟨⟨h_vn, h_vl, h_vp, h_vs, h_vq, h_vd⟩, ⟨⟨h_pc, h_qc, h_sc, h_tn, h_gp⟩, fun c hc3 => h_lm c hc3, fun p i hp hi => ?_, fun p i hp hi => ?_, fun q hq => ?_⟩⟩
  · rw [Nat.zero_add]; exact h_p p i hp hi
  · rw [Nat.zero_add]; exact h_s p i hp hi
  · rw [Nat.zero_add]; exact h_q q hq
