-- (written by genW.py)
theorem Cmp_setLimit {s s' : Mem} (hC : Cmp s) {x : Nat} {v : Int} (hx : x < 3) (e : ∀ k, k < 170 → ¬ (k = 5 + x) → iI s' 341 k = iI s 341 k) (f : ∀ k j, k ≤ 26 → ¬ (k = 26 ∧ j = x) → iI s' k j = iI s k j) (fL : ∀ k, k ≤ 26 → gL s' k 6 = gL s k 6) (h1 : iI s' 341 (5 + x) = v) (h2 : iI s' 26 x = v) (v0 : 0 ≤ v) (v1 : v ≤ 40) : Cmp s' := by
  obtain ⟨hv, hc⟩ := hC
  have bn := VRn hv
  unfold VN at bn
  have h_pc : iI s' 0 1 = iI s' 341 0 := by
    rw [f 0 1 (by omega) (by omega), e 0 (by omega) (by omega)]
    exact c_pc hc
  have h_qc : iI s' 0 3 = iI s' 341 1 := by
    rw [f 0 3 (by omega) (by omega), e 1 (by omega) (by omega)]
    exact c_qc hc
  have h_sc : iI s' 0 5 = iI s' 341 2 := by
    rw [f 0 5 (by omega) (by omega), e 2 (by omega) (by omega)]
    exact c_sc hc
  have h_tn : iI s' 0 8 = iI s' 341 3 := by
    rw [f 0 8 (by omega) (by omega), e 3 (by omega) (by omega)]
    exact c_tn hc
  have h_gp : iI s' 0 7 = iI s' 341 4 := by
    rw [f 0 7 (by omega) (by omega), e 4 (by omega) (by omega)]
    exact c_gp hc
  have h_lm : ∀ c, c < 3 → iI s' 26 c = iI s' 341 (5 + c) := fun c hc3 => by
    by_cases h : c = x
    · subst h; rw [h1, h2]
    · rw [f 26 c (by omega) (by omega), e (5 + c) (by omega) (by omega)]
      exact c_lm hc hc3
  have h_p : ∀ p i : Nat, (p : Int) < iI s' 341 0 → i < 5 → iI s' (2 + p) i = iI s' 341 (8 + 5 * p + i) := fun p i hp hi => by
    rw [e 0 (by omega) (by omega)] at hp
    rw [f (2 + p) i (by omega) (by omega), e (8 + 5 * p + i) (by omega) (by omega)]
    exact c_p hc hp hi
  have h_s : ∀ p i : Nat, (p : Int) < iI s' 341 2 → i < 3 → iI s' (22 + p) i = iI s' 341 (38 + 3 * p + i) := fun p i hp hi => by
    rw [e 2 (by omega) (by omega)] at hp
    rw [f (22 + p) i (by omega) (by omega), e (38 + 3 * p + i) (by omega) (by omega)]
    exact c_s hc hp hi
  have h_q : ∀ q : Nat, (q : Int) < iI s' 341 1 → PR s' (9 + q) (iI s' 341) q := fun q hq => by
    rw [e 1 (by omega) (by omega)] at hq
    refine ⟨fun i hi => ?_, ?_, ?_, ?_, ?_, ?_⟩
    · rw [f (9 + q) i (by omega) (by omega), e (50 + 10 * q + i) (by omega) (by omega)]; exact c_q hc hq hi
    · rw [fL (9 + q) (by omega), e (50 + 10 * q + 4) (by omega) (by omega), e (50 + 10 * q + 5) (by omega) (by omega)]; exact c_qL hc hq
    · rw [f (9 + q) 7 (by omega) (by omega), e (50 + 10 * q + 6) (by omega) (by omega)]; exact c_q7 hc hq
    · rw [f (9 + q) 8 (by omega) (by omega), e (50 + 10 * q + 7) (by omega) (by omega)]; exact c_q8 hc hq
    · rw [f (9 + q) 9 (by omega) (by omega), e (50 + 10 * q + 9) (by omega) (by omega)]; exact c_q9 hc hq
    · rw [f (9 + q) 10 (by omega) (by omega), e (50 + 10 * q + 8) (by omega) (by omega)]; exact c_q10 hc hq
  have h_vn : VN (iI s' 341) := by
    unfold VN
    rw [e 0 (by omega) (by omega), e 1 (by omega) (by omega), e 2 (by omega) (by omega), e 3 (by omega) (by omega), e 4 (by omega) (by omega)]
    exact bn
  have h_vl : ∀ c, c < 3 → 0 ≤ iI s' 341 (5 + c) ∧ iI s' 341 (5 + c) ≤ 40 := fun c hc3 => by
    by_cases h : c = x
    · subst h; rw [h1]; exact ⟨v0, v1⟩
    · rw [e (5 + c) (by omega) (by omega)]
      exact VRc hv hc3
  have h_vp : ∀ p : Nat, (p : Int) < iI s' 341 0 → VP (iI s' 341) p := fun p hp => by
    rw [e 0 (by omega) (by omega)] at hp
    have d := VRp hv hp
    unfold VP at d ⊢
    rw [e (8 + 5 * p + 0) (by omega) (by omega), e (8 + 5 * p + 1) (by omega) (by omega), e (8 + 5 * p + 2) (by omega) (by omega), e (8 + 5 * p + 3) (by omega) (by omega), e (8 + 5 * p + 4) (by omega) (by omega)]
    exact d
  have h_vs : ∀ j, j < 4 → VS (iI s' 341) j := fun j hj => by
    have d := VRs hv hj
    unfold VS at d ⊢
    rw [e (38 + 3 * j + 0) (by omega) (by omega), e (38 + 3 * j + 1) (by omega) (by omega), e (38 + 3 * j + 2) (by omega) (by omega)]
    exact d
  have h_vq : ∀ q : Nat, (q : Int) < iI s' 341 1 → VQ (iI s' 341) q := fun q hq => by
    rw [e 1 (by omega) (by omega)] at hq
    have d := VRq hv hq
    unfold VQ at d ⊢
    rw [e (50 + 10 * q + 0) (by omega) (by omega), e (50 + 10 * q + 1) (by omega) (by omega), e (50 + 10 * q + 2) (by omega) (by omega), e (50 + 10 * q + 3) (by omega) (by omega), e (50 + 10 * q + 4) (by omega) (by omega), e (50 + 10 * q + 5) (by omega) (by omega), e (50 + 10 * q + 6) (by omega) (by omega), e (50 + 10 * q + 7) (by omega) (by omega), e (50 + 10 * q + 8) (by omega) (by omega), e (50 + 10 * q + 9) (by omega) (by omega), e 0 (by omega) (by omega)]
    exact d
  have h_vd : VD (iI s' 341) := fun q r hq hr hne hb1 hb2 hat => by
    rw [e 1 (by omega) (by omega)] at hq hr
    rw [e (50 + 10 * q + 8) (by omega) (by omega)] at hb1
    rw [e (50 + 10 * r + 8) (by omega) (by omega)] at hb2
    rw [e (50 + 10 * q + 6) (by omega) (by omega), e (50 + 10 * r + 6) (by omega) (by omega)] at hat
    rw [e (50 + 10 * q + 4) (by omega) (by omega), e (50 + 10 * q + 5) (by omega) (by omega), e (50 + 10 * r + 4) (by omega) (by omega), e (50 + 10 * r + 5) (by omega) (by omega)]
    exact VRd hv q r hq hr hne hb1 hb2 hat
  refine ⟨⟨h_vn, h_vl, h_vp, h_vs, h_vq, h_vd⟩, ⟨⟨h_pc, h_qc, h_sc, h_tn, h_gp⟩, fun c hc3 => h_lm c hc3, fun p i hp hi => ?_, fun p i hp hi => ?_, fun q hq => ?_⟩⟩
  · rw [Nat.zero_add]; exact h_p p i hp hi
  · rw [Nat.zero_add]; exact h_s p i hp hi
  · rw [Nat.zero_add]; exact h_q q hq
theorem Cmp_setRate {s s' : Mem} (hC : Cmp s) {x : Nat} {v : Int} (hx : (x : Int) < iI s 341 0) (e : ∀ k, k < 170 → ¬ (k = 8 + 5 * x + 4) → iI s' 341 k = iI s 341 k) (f : ∀ k j, k ≤ 26 → ¬ (k = 2 + x ∧ j = 4) → iI s' k j = iI s k j) (fL : ∀ k, k ≤ 26 → gL s' k 6 = gL s k 6) (h1 : iI s' 341 (8 + 5 * x + 4) = v) (h2 : iI s' (2 + x) 4 = v) (v0 : 1 ≤ v) (v1 : v ≤ 99) : Cmp s' := by
  obtain ⟨hv, hc⟩ := hC
  have bn := VRn hv
  unfold VN at bn
  have h_pc : iI s' 0 1 = iI s' 341 0 := by
    rw [f 0 1 (by omega) (by omega), e 0 (by omega) (by omega)]
    exact c_pc hc
  have h_qc : iI s' 0 3 = iI s' 341 1 := by
    rw [f 0 3 (by omega) (by omega), e 1 (by omega) (by omega)]
    exact c_qc hc
  have h_sc : iI s' 0 5 = iI s' 341 2 := by
    rw [f 0 5 (by omega) (by omega), e 2 (by omega) (by omega)]
    exact c_sc hc
  have h_tn : iI s' 0 8 = iI s' 341 3 := by
    rw [f 0 8 (by omega) (by omega), e 3 (by omega) (by omega)]
    exact c_tn hc
  have h_gp : iI s' 0 7 = iI s' 341 4 := by
    rw [f 0 7 (by omega) (by omega), e 4 (by omega) (by omega)]
    exact c_gp hc
  have h_lm : ∀ c, c < 3 → iI s' 26 c = iI s' 341 (5 + c) := fun c hc3 => by
    rw [f 26 c (by omega) (by omega), e (5 + c) (by omega) (by omega)]
    exact c_lm hc hc3
  have h_p : ∀ p i : Nat, (p : Int) < iI s' 341 0 → i < 5 → iI s' (2 + p) i = iI s' 341 (8 + 5 * p + i) := fun p i hp hi => by
    rw [e 0 (by omega) (by omega)] at hp
    by_cases h : p = x ∧ i = 4
    · obtain ⟨h, h'⟩ := h; subst h; subst h'; rw [h1, h2]
    · rw [f (2 + p) i (by omega) (by omega), e (8 + 5 * p + i) (by omega) (by omega)]
      exact c_p hc hp hi
  have h_s : ∀ p i : Nat, (p : Int) < iI s' 341 2 → i < 3 → iI s' (22 + p) i = iI s' 341 (38 + 3 * p + i) := fun p i hp hi => by
    rw [e 2 (by omega) (by omega)] at hp
    rw [f (22 + p) i (by omega) (by omega), e (38 + 3 * p + i) (by omega) (by omega)]
    exact c_s hc hp hi
  have h_q : ∀ q : Nat, (q : Int) < iI s' 341 1 → PR s' (9 + q) (iI s' 341) q := fun q hq => by
    rw [e 1 (by omega) (by omega)] at hq
    refine ⟨fun i hi => ?_, ?_, ?_, ?_, ?_, ?_⟩
    · rw [f (9 + q) i (by omega) (by omega), e (50 + 10 * q + i) (by omega) (by omega)]; exact c_q hc hq hi
    · rw [fL (9 + q) (by omega), e (50 + 10 * q + 4) (by omega) (by omega), e (50 + 10 * q + 5) (by omega) (by omega)]; exact c_qL hc hq
    · rw [f (9 + q) 7 (by omega) (by omega), e (50 + 10 * q + 6) (by omega) (by omega)]; exact c_q7 hc hq
    · rw [f (9 + q) 8 (by omega) (by omega), e (50 + 10 * q + 7) (by omega) (by omega)]; exact c_q8 hc hq
    · rw [f (9 + q) 9 (by omega) (by omega), e (50 + 10 * q + 9) (by omega) (by omega)]; exact c_q9 hc hq
    · rw [f (9 + q) 10 (by omega) (by omega), e (50 + 10 * q + 8) (by omega) (by omega)]; exact c_q10 hc hq
  have h_vn : VN (iI s' 341) := by
    unfold VN
    rw [e 0 (by omega) (by omega), e 1 (by omega) (by omega), e 2 (by omega) (by omega), e 3 (by omega) (by omega), e 4 (by omega) (by omega)]
    exact bn
  have h_vl : ∀ c, c < 3 → 0 ≤ iI s' 341 (5 + c) ∧ iI s' 341 (5 + c) ≤ 40 := fun c hc3 => by
    rw [e (5 + c) (by omega) (by omega)]
    exact VRc hv hc3
  have h_vp : ∀ p : Nat, (p : Int) < iI s' 341 0 → VP (iI s' 341) p := fun p hp => by
    rw [e 0 (by omega) (by omega)] at hp
    have d := VRp hv hp
    unfold VP at d ⊢
    rw [e (8 + 5 * p + 0) (by omega) (by omega), e (8 + 5 * p + 1) (by omega) (by omega), e (8 + 5 * p + 2) (by omega) (by omega), e (8 + 5 * p + 3) (by omega) (by omega)]
    by_cases h : p = x
    · subst h; rw [h1]; omega
    · rw [e (8 + 5 * p + 4) (by omega) (by omega)]
      exact d
  have h_vs : ∀ j, j < 4 → VS (iI s' 341) j := fun j hj => by
    have d := VRs hv hj
    unfold VS at d ⊢
    rw [e (38 + 3 * j + 0) (by omega) (by omega), e (38 + 3 * j + 1) (by omega) (by omega), e (38 + 3 * j + 2) (by omega) (by omega)]
    exact d
  have h_vq : ∀ q : Nat, (q : Int) < iI s' 341 1 → VQ (iI s' 341) q := fun q hq => by
    rw [e 1 (by omega) (by omega)] at hq
    have d := VRq hv hq
    unfold VQ at d ⊢
    rw [e (50 + 10 * q + 0) (by omega) (by omega), e (50 + 10 * q + 1) (by omega) (by omega), e (50 + 10 * q + 2) (by omega) (by omega), e (50 + 10 * q + 3) (by omega) (by omega), e (50 + 10 * q + 4) (by omega) (by omega), e (50 + 10 * q + 5) (by omega) (by omega), e (50 + 10 * q + 6) (by omega) (by omega), e (50 + 10 * q + 7) (by omega) (by omega), e (50 + 10 * q + 8) (by omega) (by omega), e (50 + 10 * q + 9) (by omega) (by omega), e 0 (by omega) (by omega)]
    exact d
  have h_vd : VD (iI s' 341) := fun q r hq hr hne hb1 hb2 hat => by
    rw [e 1 (by omega) (by omega)] at hq hr
    rw [e (50 + 10 * q + 8) (by omega) (by omega)] at hb1
    rw [e (50 + 10 * r + 8) (by omega) (by omega)] at hb2
    rw [e (50 + 10 * q + 6) (by omega) (by omega), e (50 + 10 * r + 6) (by omega) (by omega)] at hat
    rw [e (50 + 10 * q + 4) (by omega) (by omega), e (50 + 10 * q + 5) (by omega) (by omega), e (50 + 10 * r + 4) (by omega) (by omega), e (50 + 10 * r + 5) (by omega) (by omega)]
    exact VRd hv q r hq hr hne hb1 hb2 hat
  refine ⟨⟨h_vn, h_vl, h_vp, h_vs, h_vq, h_vd⟩, ⟨⟨h_pc, h_qc, h_sc, h_tn, h_gp⟩, fun c hc3 => h_lm c hc3, fun p i hp hi => ?_, fun p i hp hi => ?_, fun q hq => ?_⟩⟩
  · rw [Nat.zero_add]; exact h_p p i hp hi
  · rw [Nat.zero_add]; exact h_s p i hp hi
  · rw [Nat.zero_add]; exact h_q q hq
theorem Cmp_setGap {s s' : Mem} (hC : Cmp s) {v : Int} (e : ∀ k, k < 170 → ¬ (k = 4) → iI s' 341 k = iI s 341 k) (f : ∀ k j, k ≤ 26 → ¬ (k = 0 ∧ j = 7) → iI s' k j = iI s k j) (fL : ∀ k, k ≤ 26 → gL s' k 6 = gL s k 6) (h1 : iI s' 341 4 = v) (h2 : iI s' 0 7 = v) (v0 : 0 ≤ v) (v1 : v ≤ 5) : Cmp s' := by
  obtain ⟨hv, hc⟩ := hC
  have bn := VRn hv
  unfold VN at bn
  have h_pc : iI s' 0 1 = iI s' 341 0 := by
    rw [f 0 1 (by omega) (by omega), e 0 (by omega) (by omega)]
    exact c_pc hc
  have h_qc : iI s' 0 3 = iI s' 341 1 := by
    rw [f 0 3 (by omega) (by omega), e 1 (by omega) (by omega)]
    exact c_qc hc
  have h_sc : iI s' 0 5 = iI s' 341 2 := by
    rw [f 0 5 (by omega) (by omega), e 2 (by omega) (by omega)]
    exact c_sc hc
  have h_tn : iI s' 0 8 = iI s' 341 3 := by
    rw [f 0 8 (by omega) (by omega), e 3 (by omega) (by omega)]
    exact c_tn hc
  have h_gp : iI s' 0 7 = iI s' 341 4 := by
    rw [h1, h2]
  have h_lm : ∀ c, c < 3 → iI s' 26 c = iI s' 341 (5 + c) := fun c hc3 => by
    rw [f 26 c (by omega) (by omega), e (5 + c) (by omega) (by omega)]
    exact c_lm hc hc3
  have h_p : ∀ p i : Nat, (p : Int) < iI s' 341 0 → i < 5 → iI s' (2 + p) i = iI s' 341 (8 + 5 * p + i) := fun p i hp hi => by
    rw [e 0 (by omega) (by omega)] at hp
    rw [f (2 + p) i (by omega) (by omega), e (8 + 5 * p + i) (by omega) (by omega)]
    exact c_p hc hp hi
  have h_s : ∀ p i : Nat, (p : Int) < iI s' 341 2 → i < 3 → iI s' (22 + p) i = iI s' 341 (38 + 3 * p + i) := fun p i hp hi => by
    rw [e 2 (by omega) (by omega)] at hp
    rw [f (22 + p) i (by omega) (by omega), e (38 + 3 * p + i) (by omega) (by omega)]
    exact c_s hc hp hi
  have h_q : ∀ q : Nat, (q : Int) < iI s' 341 1 → PR s' (9 + q) (iI s' 341) q := fun q hq => by
    rw [e 1 (by omega) (by omega)] at hq
    refine ⟨fun i hi => ?_, ?_, ?_, ?_, ?_, ?_⟩
    · rw [f (9 + q) i (by omega) (by omega), e (50 + 10 * q + i) (by omega) (by omega)]; exact c_q hc hq hi
    · rw [fL (9 + q) (by omega), e (50 + 10 * q + 4) (by omega) (by omega), e (50 + 10 * q + 5) (by omega) (by omega)]; exact c_qL hc hq
    · rw [f (9 + q) 7 (by omega) (by omega), e (50 + 10 * q + 6) (by omega) (by omega)]; exact c_q7 hc hq
    · rw [f (9 + q) 8 (by omega) (by omega), e (50 + 10 * q + 7) (by omega) (by omega)]; exact c_q8 hc hq
    · rw [f (9 + q) 9 (by omega) (by omega), e (50 + 10 * q + 9) (by omega) (by omega)]; exact c_q9 hc hq
    · rw [f (9 + q) 10 (by omega) (by omega), e (50 + 10 * q + 8) (by omega) (by omega)]; exact c_q10 hc hq
  have h_vn : VN (iI s' 341) := by
    unfold VN
    rw [e 0 (by omega) (by omega), e 1 (by omega) (by omega), e 2 (by omega) (by omega), e 3 (by omega) (by omega), h1]
    omega
  have h_vl : ∀ c, c < 3 → 0 ≤ iI s' 341 (5 + c) ∧ iI s' 341 (5 + c) ≤ 40 := fun c hc3 => by
    rw [e (5 + c) (by omega) (by omega)]
    exact VRc hv hc3
  have h_vp : ∀ p : Nat, (p : Int) < iI s' 341 0 → VP (iI s' 341) p := fun p hp => by
    rw [e 0 (by omega) (by omega)] at hp
    have d := VRp hv hp
    unfold VP at d ⊢
    rw [e (8 + 5 * p + 0) (by omega) (by omega), e (8 + 5 * p + 1) (by omega) (by omega), e (8 + 5 * p + 2) (by omega) (by omega), e (8 + 5 * p + 3) (by omega) (by omega), e (8 + 5 * p + 4) (by omega) (by omega)]
    exact d
  have h_vs : ∀ j, j < 4 → VS (iI s' 341) j := fun j hj => by
    have d := VRs hv hj
    unfold VS at d ⊢
    rw [e (38 + 3 * j + 0) (by omega) (by omega), e (38 + 3 * j + 1) (by omega) (by omega), e (38 + 3 * j + 2) (by omega) (by omega)]
    exact d
  have h_vq : ∀ q : Nat, (q : Int) < iI s' 341 1 → VQ (iI s' 341) q := fun q hq => by
    rw [e 1 (by omega) (by omega)] at hq
    have d := VRq hv hq
    unfold VQ at d ⊢
    rw [e (50 + 10 * q + 0) (by omega) (by omega), e (50 + 10 * q + 1) (by omega) (by omega), e (50 + 10 * q + 2) (by omega) (by omega), e (50 + 10 * q + 3) (by omega) (by omega), e (50 + 10 * q + 4) (by omega) (by omega), e (50 + 10 * q + 5) (by omega) (by omega), e (50 + 10 * q + 6) (by omega) (by omega), e (50 + 10 * q + 7) (by omega) (by omega), e (50 + 10 * q + 8) (by omega) (by omega), e (50 + 10 * q + 9) (by omega) (by omega), e 0 (by omega) (by omega)]
    exact d
  have h_vd : VD (iI s' 341) := fun q r hq hr hne hb1 hb2 hat => by
    rw [e 1 (by omega) (by omega)] at hq hr
    rw [e (50 + 10 * q + 8) (by omega) (by omega)] at hb1
    rw [e (50 + 10 * r + 8) (by omega) (by omega)] at hb2
    rw [e (50 + 10 * q + 6) (by omega) (by omega), e (50 + 10 * r + 6) (by omega) (by omega)] at hat
    rw [e (50 + 10 * q + 4) (by omega) (by omega), e (50 + 10 * q + 5) (by omega) (by omega), e (50 + 10 * r + 4) (by omega) (by omega), e (50 + 10 * r + 5) (by omega) (by omega)]
    exact VRd hv q r hq hr hne hb1 hb2 hat
  refine ⟨⟨h_vn, h_vl, h_vp, h_vs, h_vq, h_vd⟩, ⟨⟨h_pc, h_qc, h_sc, h_tn, h_gp⟩, fun c hc3 => h_lm c hc3, fun p i hp hi => ?_, fun p i hp hi => ?_, fun q hq => ?_⟩⟩
  · rw [Nat.zero_add]; exact h_p p i hp hi
  · rw [Nat.zero_add]; exact h_s p i hp hi
  · rw [Nat.zero_add]; exact h_q q hq
theorem Cmp_advance {s s' : Mem} (hC : Cmp s) {v : Int} (e : ∀ k, k < 170 → ¬ (k = 3) → iI s' 341 k = iI s 341 k) (f : ∀ k j, k ≤ 26 → ¬ (k = 0 ∧ j = 8) → iI s' k j = iI s k j) (fL : ∀ k, k ≤ 26 → gL s' k 6 = gL s k 6) (h1 : iI s' 341 3 = v) (h2 : iI s' 0 8 = v) (v0 : 0 ≤ v) (v1 : v ≤ 60) : Cmp s' := by
  obtain ⟨hv, hc⟩ := hC
  have bn := VRn hv
  unfold VN at bn
  have h_pc : iI s' 0 1 = iI s' 341 0 := by
    rw [f 0 1 (by omega) (by omega), e 0 (by omega) (by omega)]
    exact c_pc hc
  have h_qc : iI s' 0 3 = iI s' 341 1 := by
    rw [f 0 3 (by omega) (by omega), e 1 (by omega) (by omega)]
    exact c_qc hc
  have h_sc : iI s' 0 5 = iI s' 341 2 := by
    rw [f 0 5 (by omega) (by omega), e 2 (by omega) (by omega)]
    exact c_sc hc
  have h_tn : iI s' 0 8 = iI s' 341 3 := by
    rw [h1, h2]
  have h_gp : iI s' 0 7 = iI s' 341 4 := by
    rw [f 0 7 (by omega) (by omega), e 4 (by omega) (by omega)]
    exact c_gp hc
  have h_lm : ∀ c, c < 3 → iI s' 26 c = iI s' 341 (5 + c) := fun c hc3 => by
    rw [f 26 c (by omega) (by omega), e (5 + c) (by omega) (by omega)]
    exact c_lm hc hc3
  have h_p : ∀ p i : Nat, (p : Int) < iI s' 341 0 → i < 5 → iI s' (2 + p) i = iI s' 341 (8 + 5 * p + i) := fun p i hp hi => by
    rw [e 0 (by omega) (by omega)] at hp
    rw [f (2 + p) i (by omega) (by omega), e (8 + 5 * p + i) (by omega) (by omega)]
    exact c_p hc hp hi
  have h_s : ∀ p i : Nat, (p : Int) < iI s' 341 2 → i < 3 → iI s' (22 + p) i = iI s' 341 (38 + 3 * p + i) := fun p i hp hi => by
    rw [e 2 (by omega) (by omega)] at hp
    rw [f (22 + p) i (by omega) (by omega), e (38 + 3 * p + i) (by omega) (by omega)]
    exact c_s hc hp hi
  have h_q : ∀ q : Nat, (q : Int) < iI s' 341 1 → PR s' (9 + q) (iI s' 341) q := fun q hq => by
    rw [e 1 (by omega) (by omega)] at hq
    refine ⟨fun i hi => ?_, ?_, ?_, ?_, ?_, ?_⟩
    · rw [f (9 + q) i (by omega) (by omega), e (50 + 10 * q + i) (by omega) (by omega)]; exact c_q hc hq hi
    · rw [fL (9 + q) (by omega), e (50 + 10 * q + 4) (by omega) (by omega), e (50 + 10 * q + 5) (by omega) (by omega)]; exact c_qL hc hq
    · rw [f (9 + q) 7 (by omega) (by omega), e (50 + 10 * q + 6) (by omega) (by omega)]; exact c_q7 hc hq
    · rw [f (9 + q) 8 (by omega) (by omega), e (50 + 10 * q + 7) (by omega) (by omega)]; exact c_q8 hc hq
    · rw [f (9 + q) 9 (by omega) (by omega), e (50 + 10 * q + 9) (by omega) (by omega)]; exact c_q9 hc hq
    · rw [f (9 + q) 10 (by omega) (by omega), e (50 + 10 * q + 8) (by omega) (by omega)]; exact c_q10 hc hq
  have h_vn : VN (iI s' 341) := by
    unfold VN
    rw [e 0 (by omega) (by omega), e 1 (by omega) (by omega), e 2 (by omega) (by omega), h1, e 4 (by omega) (by omega)]
    omega
  have h_vl : ∀ c, c < 3 → 0 ≤ iI s' 341 (5 + c) ∧ iI s' 341 (5 + c) ≤ 40 := fun c hc3 => by
    rw [e (5 + c) (by omega) (by omega)]
    exact VRc hv hc3
  have h_vp : ∀ p : Nat, (p : Int) < iI s' 341 0 → VP (iI s' 341) p := fun p hp => by
    rw [e 0 (by omega) (by omega)] at hp
    have d := VRp hv hp
    unfold VP at d ⊢
    rw [e (8 + 5 * p + 0) (by omega) (by omega), e (8 + 5 * p + 1) (by omega) (by omega), e (8 + 5 * p + 2) (by omega) (by omega), e (8 + 5 * p + 3) (by omega) (by omega), e (8 + 5 * p + 4) (by omega) (by omega)]
    exact d
  have h_vs : ∀ j, j < 4 → VS (iI s' 341) j := fun j hj => by
    have d := VRs hv hj
    unfold VS at d ⊢
    rw [e (38 + 3 * j + 0) (by omega) (by omega), e (38 + 3 * j + 1) (by omega) (by omega), e (38 + 3 * j + 2) (by omega) (by omega)]
    exact d
  have h_vq : ∀ q : Nat, (q : Int) < iI s' 341 1 → VQ (iI s' 341) q := fun q hq => by
    rw [e 1 (by omega) (by omega)] at hq
    have d := VRq hv hq
    unfold VQ at d ⊢
    rw [e (50 + 10 * q + 0) (by omega) (by omega), e (50 + 10 * q + 1) (by omega) (by omega), e (50 + 10 * q + 2) (by omega) (by omega), e (50 + 10 * q + 3) (by omega) (by omega), e (50 + 10 * q + 4) (by omega) (by omega), e (50 + 10 * q + 5) (by omega) (by omega), e (50 + 10 * q + 6) (by omega) (by omega), e (50 + 10 * q + 7) (by omega) (by omega), e (50 + 10 * q + 8) (by omega) (by omega), e (50 + 10 * q + 9) (by omega) (by omega), e 0 (by omega) (by omega)]
    exact d
  have h_vd : VD (iI s' 341) := fun q r hq hr hne hb1 hb2 hat => by
    rw [e 1 (by omega) (by omega)] at hq hr
    rw [e (50 + 10 * q + 8) (by omega) (by omega)] at hb1
    rw [e (50 + 10 * r + 8) (by omega) (by omega)] at hb2
    rw [e (50 + 10 * q + 6) (by omega) (by omega), e (50 + 10 * r + 6) (by omega) (by omega)] at hat
    rw [e (50 + 10 * q + 4) (by omega) (by omega), e (50 + 10 * q + 5) (by omega) (by omega), e (50 + 10 * r + 4) (by omega) (by omega), e (50 + 10 * r + 5) (by omega) (by omega)]
    exact VRd hv q r hq hr hne hb1 hb2 hat
  refine ⟨⟨h_vn, h_vl, h_vp, h_vs, h_vq, h_vd⟩, ⟨⟨h_pc, h_qc, h_sc, h_tn, h_gp⟩, fun c hc3 => h_lm c hc3, fun p i hp hi => ?_, fun p i hp hi => ?_, fun q hq => ?_⟩⟩
  · rw [Nat.zero_add]; exact h_p p i hp hi
  · rw [Nat.zero_add]; exact h_s p i hp hi
  · rw [Nat.zero_add]; exact h_q q hq
theorem Cmp_addPitch {s s' : Mem} (hC : Cmp s) {x : Nat} (hx : iI s 341 0 = x) (hx6 : x < 6) (e : ∀ k, k < 170 → ¬ (k = 0 ∨ 8 + 5 * x ≤ k ∧ k < 8 + 5 * x + 5) → iI s' 341 k = iI s 341 k) (f : ∀ k j, k ≤ 26 → ¬ (k = 0 ∧ j = 1 ∨ k = 2 + x) → iI s' k j = iI s k j) (fL : ∀ k, k ≤ 26 → gL s' k 6 = gL s k 6) (h0 : iI s' 341 0 = ((x + 1 : Nat) : Int)) (h1 : ∀ i, i < 5 → iI s' (2 + x) i = iI s' 341 (8 + 5 * x + i)) (h2 : iI s' 0 1 = ((x + 1 : Nat) : Int)) (h3 : VP (iI s' 341) x) : Cmp s' := by
  obtain ⟨hv, hc⟩ := hC
  have bn := VRn hv
  unfold VN at bn
  have h_pc : iI s' 0 1 = iI s' 341 0 := by
    rw [h0, h2]
  have h_qc : iI s' 0 3 = iI s' 341 1 := by
    rw [f 0 3 (by omega) (by omega), e 1 (by omega) (by omega)]
    exact c_qc hc
  have h_sc : iI s' 0 5 = iI s' 341 2 := by
    rw [f 0 5 (by omega) (by omega), e 2 (by omega) (by omega)]
    exact c_sc hc
  have h_tn : iI s' 0 8 = iI s' 341 3 := by
    rw [f 0 8 (by omega) (by omega), e 3 (by omega) (by omega)]
    exact c_tn hc
  have h_gp : iI s' 0 7 = iI s' 341 4 := by
    rw [f 0 7 (by omega) (by omega), e 4 (by omega) (by omega)]
    exact c_gp hc
  have h_lm : ∀ c, c < 3 → iI s' 26 c = iI s' 341 (5 + c) := fun c hc3 => by
    rw [f 26 c (by omega) (by omega), e (5 + c) (by omega) (by omega)]
    exact c_lm hc hc3
  have h_p : ∀ p i : Nat, (p : Int) < iI s' 341 0 → i < 5 → iI s' (2 + p) i = iI s' 341 (8 + 5 * p + i) := fun p i hp hi => by
    rw [h0] at hp
    by_cases h : p = x
    · subst h; exact h1 i hi
    · rw [f (2 + p) i (by omega) (by omega), e (8 + 5 * p + i) (by omega) (by omega)]
      exact c_p hc (by omega) hi
  have h_s : ∀ p i : Nat, (p : Int) < iI s' 341 2 → i < 3 → iI s' (22 + p) i = iI s' 341 (38 + 3 * p + i) := fun p i hp hi => by
    rw [e 2 (by omega) (by omega)] at hp
    rw [f (22 + p) i (by omega) (by omega), e (38 + 3 * p + i) (by omega) (by omega)]
    exact c_s hc hp hi
  have h_q : ∀ q : Nat, (q : Int) < iI s' 341 1 → PR s' (9 + q) (iI s' 341) q := fun q hq => by
    rw [e 1 (by omega) (by omega)] at hq
    refine ⟨fun i hi => ?_, ?_, ?_, ?_, ?_, ?_⟩
    · rw [f (9 + q) i (by omega) (by omega), e (50 + 10 * q + i) (by omega) (by omega)]; exact c_q hc hq hi
    · rw [fL (9 + q) (by omega), e (50 + 10 * q + 4) (by omega) (by omega), e (50 + 10 * q + 5) (by omega) (by omega)]; exact c_qL hc hq
    · rw [f (9 + q) 7 (by omega) (by omega), e (50 + 10 * q + 6) (by omega) (by omega)]; exact c_q7 hc hq
    · rw [f (9 + q) 8 (by omega) (by omega), e (50 + 10 * q + 7) (by omega) (by omega)]; exact c_q8 hc hq
    · rw [f (9 + q) 9 (by omega) (by omega), e (50 + 10 * q + 9) (by omega) (by omega)]; exact c_q9 hc hq
    · rw [f (9 + q) 10 (by omega) (by omega), e (50 + 10 * q + 8) (by omega) (by omega)]; exact c_q10 hc hq
  have h_vn : VN (iI s' 341) := by
    unfold VN
    rw [h0, e 1 (by omega) (by omega), e 2 (by omega) (by omega), e 3 (by omega) (by omega), e 4 (by omega) (by omega)]
    omega
  have h_vl : ∀ c, c < 3 → 0 ≤ iI s' 341 (5 + c) ∧ iI s' 341 (5 + c) ≤ 40 := fun c hc3 => by
    rw [e (5 + c) (by omega) (by omega)]
    exact VRc hv hc3
  have h_vp : ∀ p : Nat, (p : Int) < iI s' 341 0 → VP (iI s' 341) p := fun p hp => by
    rw [h0] at hp
    by_cases h : p = x
    · subst h; exact h3
    · have d := VRp hv (p := p) (by omega)
      unfold VP at d ⊢
      rw [e (8 + 5 * p + 0) (by omega) (by omega), e (8 + 5 * p + 1) (by omega) (by omega), e (8 + 5 * p + 2) (by omega) (by omega), e (8 + 5 * p + 3) (by omega) (by omega), e (8 + 5 * p + 4) (by omega) (by omega)]
      exact d
  have h_vs : ∀ j, j < 4 → VS (iI s' 341) j := fun j hj => by
    have d := VRs hv hj
    unfold VS at d ⊢
    rw [e (38 + 3 * j + 0) (by omega) (by omega), e (38 + 3 * j + 1) (by omega) (by omega), e (38 + 3 * j + 2) (by omega) (by omega)]
    exact d
  have h_vq : ∀ q : Nat, (q : Int) < iI s' 341 1 → VQ (iI s' 341) q := fun q hq => by
    rw [e 1 (by omega) (by omega)] at hq
    have d := VRq hv hq
    unfold VQ at d ⊢
    rw [e (50 + 10 * q + 0) (by omega) (by omega), e (50 + 10 * q + 1) (by omega) (by omega), e (50 + 10 * q + 2) (by omega) (by omega), e (50 + 10 * q + 3) (by omega) (by omega), e (50 + 10 * q + 4) (by omega) (by omega), e (50 + 10 * q + 5) (by omega) (by omega), e (50 + 10 * q + 6) (by omega) (by omega), e (50 + 10 * q + 7) (by omega) (by omega), e (50 + 10 * q + 8) (by omega) (by omega), e (50 + 10 * q + 9) (by omega) (by omega), h0]
    omega
  have h_vd : VD (iI s' 341) := fun q r hq hr hne hb1 hb2 hat => by
    rw [e 1 (by omega) (by omega)] at hq hr
    rw [e (50 + 10 * q + 8) (by omega) (by omega)] at hb1
    rw [e (50 + 10 * r + 8) (by omega) (by omega)] at hb2
    rw [e (50 + 10 * q + 6) (by omega) (by omega), e (50 + 10 * r + 6) (by omega) (by omega)] at hat
    rw [e (50 + 10 * q + 4) (by omega) (by omega), e (50 + 10 * q + 5) (by omega) (by omega), e (50 + 10 * r + 4) (by omega) (by omega), e (50 + 10 * r + 5) (by omega) (by omega)]
    exact VRd hv q r hq hr hne hb1 hb2 hat
  refine ⟨⟨h_vn, h_vl, h_vp, h_vs, h_vq, h_vd⟩, ⟨⟨h_pc, h_qc, h_sc, h_tn, h_gp⟩, fun c hc3 => h_lm c hc3, fun p i hp hi => ?_, fun p i hp hi => ?_, fun q hq => ?_⟩⟩
  · rw [Nat.zero_add]; exact h_p p i hp hi
  · rw [Nat.zero_add]; exact h_s p i hp hi
  · rw [Nat.zero_add]; exact h_q q hq
theorem Cmp_addSeason {s s' : Mem} (hC : Cmp s) {x : Nat} (hx : iI s 341 2 = x) (hx4 : x < 4) (e : ∀ k, k < 170 → ¬ (k = 2 ∨ 38 + 3 * x ≤ k ∧ k < 38 + 3 * x + 3) → iI s' 341 k = iI s 341 k) (f : ∀ k j, k ≤ 26 → ¬ (k = 0 ∧ j = 5 ∨ k = 22 + x) → iI s' k j = iI s k j) (fL : ∀ k, k ≤ 26 → gL s' k 6 = gL s k 6) (h0 : iI s' 341 2 = ((x + 1 : Nat) : Int)) (h1 : ∀ i, i < 3 → iI s' (22 + x) i = iI s' 341 (38 + 3 * x + i)) (h2 : iI s' 0 5 = ((x + 1 : Nat) : Int)) (h3 : VS (iI s' 341) x) : Cmp s' := by
  obtain ⟨hv, hc⟩ := hC
  have bn := VRn hv
  unfold VN at bn
  have h_pc : iI s' 0 1 = iI s' 341 0 := by
    rw [f 0 1 (by omega) (by omega), e 0 (by omega) (by omega)]
    exact c_pc hc
  have h_qc : iI s' 0 3 = iI s' 341 1 := by
    rw [f 0 3 (by omega) (by omega), e 1 (by omega) (by omega)]
    exact c_qc hc
  have h_sc : iI s' 0 5 = iI s' 341 2 := by
    rw [h0, h2]
  have h_tn : iI s' 0 8 = iI s' 341 3 := by
    rw [f 0 8 (by omega) (by omega), e 3 (by omega) (by omega)]
    exact c_tn hc
  have h_gp : iI s' 0 7 = iI s' 341 4 := by
    rw [f 0 7 (by omega) (by omega), e 4 (by omega) (by omega)]
    exact c_gp hc
  have h_lm : ∀ c, c < 3 → iI s' 26 c = iI s' 341 (5 + c) := fun c hc3 => by
    rw [f 26 c (by omega) (by omega), e (5 + c) (by omega) (by omega)]
    exact c_lm hc hc3
  have h_p : ∀ p i : Nat, (p : Int) < iI s' 341 0 → i < 5 → iI s' (2 + p) i = iI s' 341 (8 + 5 * p + i) := fun p i hp hi => by
    rw [e 0 (by omega) (by omega)] at hp
    rw [f (2 + p) i (by omega) (by omega), e (8 + 5 * p + i) (by omega) (by omega)]
    exact c_p hc hp hi
  have h_s : ∀ p i : Nat, (p : Int) < iI s' 341 2 → i < 3 → iI s' (22 + p) i = iI s' 341 (38 + 3 * p + i) := fun p i hp hi => by
    rw [h0] at hp
    by_cases h : p = x
    · subst h; exact h1 i hi
    · rw [f (22 + p) i (by omega) (by omega), e (38 + 3 * p + i) (by omega) (by omega)]
      exact c_s hc (by omega) hi
  have h_q : ∀ q : Nat, (q : Int) < iI s' 341 1 → PR s' (9 + q) (iI s' 341) q := fun q hq => by
    rw [e 1 (by omega) (by omega)] at hq
    refine ⟨fun i hi => ?_, ?_, ?_, ?_, ?_, ?_⟩
    · rw [f (9 + q) i (by omega) (by omega), e (50 + 10 * q + i) (by omega) (by omega)]; exact c_q hc hq hi
    · rw [fL (9 + q) (by omega), e (50 + 10 * q + 4) (by omega) (by omega), e (50 + 10 * q + 5) (by omega) (by omega)]; exact c_qL hc hq
    · rw [f (9 + q) 7 (by omega) (by omega), e (50 + 10 * q + 6) (by omega) (by omega)]; exact c_q7 hc hq
    · rw [f (9 + q) 8 (by omega) (by omega), e (50 + 10 * q + 7) (by omega) (by omega)]; exact c_q8 hc hq
    · rw [f (9 + q) 9 (by omega) (by omega), e (50 + 10 * q + 9) (by omega) (by omega)]; exact c_q9 hc hq
    · rw [f (9 + q) 10 (by omega) (by omega), e (50 + 10 * q + 8) (by omega) (by omega)]; exact c_q10 hc hq
  have h_vn : VN (iI s' 341) := by
    unfold VN
    rw [h0, e 0 (by omega) (by omega), e 1 (by omega) (by omega), e 3 (by omega) (by omega), e 4 (by omega) (by omega)]
    omega
  have h_vl : ∀ c, c < 3 → 0 ≤ iI s' 341 (5 + c) ∧ iI s' 341 (5 + c) ≤ 40 := fun c hc3 => by
    rw [e (5 + c) (by omega) (by omega)]
    exact VRc hv hc3
  have h_vp : ∀ p : Nat, (p : Int) < iI s' 341 0 → VP (iI s' 341) p := fun p hp => by
    rw [e 0 (by omega) (by omega)] at hp
    have d := VRp hv hp
    unfold VP at d ⊢
    rw [e (8 + 5 * p + 0) (by omega) (by omega), e (8 + 5 * p + 1) (by omega) (by omega), e (8 + 5 * p + 2) (by omega) (by omega), e (8 + 5 * p + 3) (by omega) (by omega), e (8 + 5 * p + 4) (by omega) (by omega)]
    exact d
  have h_vs : ∀ j, j < 4 → VS (iI s' 341) j := fun j hj => by
    have d := VRs hv hj
    unfold VS at d ⊢
    by_cases h : j = x
    · subst h; exact h3
    · rw [e (38 + 3 * j + 0) (by omega) (by omega), e (38 + 3 * j + 1) (by omega) (by omega), e (38 + 3 * j + 2) (by omega) (by omega)]
      exact d
  have h_vq : ∀ q : Nat, (q : Int) < iI s' 341 1 → VQ (iI s' 341) q := fun q hq => by
    rw [e 1 (by omega) (by omega)] at hq
    have d := VRq hv hq
    unfold VQ at d ⊢
    rw [e (50 + 10 * q + 0) (by omega) (by omega), e (50 + 10 * q + 1) (by omega) (by omega), e (50 + 10 * q + 2) (by omega) (by omega), e (50 + 10 * q + 3) (by omega) (by omega), e (50 + 10 * q + 4) (by omega) (by omega), e (50 + 10 * q + 5) (by omega) (by omega), e (50 + 10 * q + 6) (by omega) (by omega), e (50 + 10 * q + 7) (by omega) (by omega), e (50 + 10 * q + 8) (by omega) (by omega), e (50 + 10 * q + 9) (by omega) (by omega), e 0 (by omega) (by omega)]
    exact d
  have h_vd : VD (iI s' 341) := fun q r hq hr hne hb1 hb2 hat => by
    rw [e 1 (by omega) (by omega)] at hq hr
    rw [e (50 + 10 * q + 8) (by omega) (by omega)] at hb1
    rw [e (50 + 10 * r + 8) (by omega) (by omega)] at hb2
    rw [e (50 + 10 * q + 6) (by omega) (by omega), e (50 + 10 * r + 6) (by omega) (by omega)] at hat
    rw [e (50 + 10 * q + 4) (by omega) (by omega), e (50 + 10 * q + 5) (by omega) (by omega), e (50 + 10 * r + 4) (by omega) (by omega), e (50 + 10 * r + 5) (by omega) (by omega)]
    exact VRd hv q r hq hr hne hb1 hb2 hat
  refine ⟨⟨h_vn, h_vl, h_vp, h_vs, h_vq, h_vd⟩, ⟨⟨h_pc, h_qc, h_sc, h_tn, h_gp⟩, fun c hc3 => h_lm c hc3, fun p i hp hi => ?_, fun p i hp hi => ?_, fun q hq => ?_⟩⟩
  · rw [Nat.zero_add]; exact h_p p i hp hi
  · rw [Nat.zero_add]; exact h_s p i hp hi
  · rw [Nat.zero_add]; exact h_q q hq
theorem Cmp_dropSeason {s s' : Mem} (hC : Cmp s) {x n : Nat} (hn : iI s 341 2 = ((n + 1 : Nat) : Int)) (hx : x ≤ n) (e : ∀ k, k < 170 → ¬ (k = 2 ∨ 38 + 3 * x ≤ k ∧ k < 38 + 3 * n) → iI s' 341 k = iI s 341 k) (f : ∀ k j, k ≤ 26 → ¬ (k = 0 ∧ j = 5 ∨ 22 + x ≤ k ∧ k < 22 + n) → iI s' k j = iI s k j) (fL : ∀ k, k ≤ 26 → gL s' k 6 = gL s k 6) (h0 : iI s' 341 2 = (n : Int)) (h1 : ∀ j i, x ≤ j → j < n → i < 3 → iI s' (22 + j) i = iI s (22 + j + 1) i) (h3 : ∀ j i, x ≤ j → j < n → i < 3 → iI s' 341 (38 + 3 * j + i) = iI s 341 (38 + 3 * j + 3 + i)) (h2 : iI s' 0 5 = (n : Int)) : Cmp s' := by
  obtain ⟨hv, hc⟩ := hC
  have bn := VRn hv
  unfold VN at bn
  have h_pc : iI s' 0 1 = iI s' 341 0 := by
    rw [f 0 1 (by omega) (by omega), e 0 (by omega) (by omega)]
    exact c_pc hc
  have h_qc : iI s' 0 3 = iI s' 341 1 := by
    rw [f 0 3 (by omega) (by omega), e 1 (by omega) (by omega)]
    exact c_qc hc
  have h_sc : iI s' 0 5 = iI s' 341 2 := by
    rw [h0, h2]
  have h_tn : iI s' 0 8 = iI s' 341 3 := by
    rw [f 0 8 (by omega) (by omega), e 3 (by omega) (by omega)]
    exact c_tn hc
  have h_gp : iI s' 0 7 = iI s' 341 4 := by
    rw [f 0 7 (by omega) (by omega), e 4 (by omega) (by omega)]
    exact c_gp hc
  have h_lm : ∀ c, c < 3 → iI s' 26 c = iI s' 341 (5 + c) := fun c hc3 => by
    rw [f 26 c (by omega) (by omega), e (5 + c) (by omega) (by omega)]
    exact c_lm hc hc3
  have h_p : ∀ p i : Nat, (p : Int) < iI s' 341 0 → i < 5 → iI s' (2 + p) i = iI s' 341 (8 + 5 * p + i) := fun p i hp hi => by
    rw [e 0 (by omega) (by omega)] at hp
    rw [f (2 + p) i (by omega) (by omega), e (8 + 5 * p + i) (by omega) (by omega)]
    exact c_p hc hp hi
  have h_s : ∀ p i : Nat, (p : Int) < iI s' 341 2 → i < 3 → iI s' (22 + p) i = iI s' 341 (38 + 3 * p + i) := fun p i hp hi => by
    rw [h0] at hp
    by_cases h : x ≤ p
    · rw [h1 p i h (by omega) hi, h3 p i h (by omega) hi]
      have := c_s hc (p := p + 1) (f := i) (by omega) hi
      rw [show 38 + 3 * (p + 1) + i = 38 + 3 * p + 3 + i by omega, show 22 + (p + 1) = 22 + p + 1 by omega] at this
      exact this
    · rw [f (22 + p) i (by omega) (by omega), e (38 + 3 * p + i) (by omega) (by omega)]
      exact c_s hc (by omega) hi
  have h_q : ∀ q : Nat, (q : Int) < iI s' 341 1 → PR s' (9 + q) (iI s' 341) q := fun q hq => by
    rw [e 1 (by omega) (by omega)] at hq
    refine ⟨fun i hi => ?_, ?_, ?_, ?_, ?_, ?_⟩
    · rw [f (9 + q) i (by omega) (by omega), e (50 + 10 * q + i) (by omega) (by omega)]; exact c_q hc hq hi
    · rw [fL (9 + q) (by omega), e (50 + 10 * q + 4) (by omega) (by omega), e (50 + 10 * q + 5) (by omega) (by omega)]; exact c_qL hc hq
    · rw [f (9 + q) 7 (by omega) (by omega), e (50 + 10 * q + 6) (by omega) (by omega)]; exact c_q7 hc hq
    · rw [f (9 + q) 8 (by omega) (by omega), e (50 + 10 * q + 7) (by omega) (by omega)]; exact c_q8 hc hq
    · rw [f (9 + q) 9 (by omega) (by omega), e (50 + 10 * q + 9) (by omega) (by omega)]; exact c_q9 hc hq
    · rw [f (9 + q) 10 (by omega) (by omega), e (50 + 10 * q + 8) (by omega) (by omega)]; exact c_q10 hc hq
  have h_vn : VN (iI s' 341) := by
    unfold VN
    rw [h0, e 0 (by omega) (by omega), e 1 (by omega) (by omega), e 3 (by omega) (by omega), e 4 (by omega) (by omega)]
    omega
  have h_vl : ∀ c, c < 3 → 0 ≤ iI s' 341 (5 + c) ∧ iI s' 341 (5 + c) ≤ 40 := fun c hc3 => by
    rw [e (5 + c) (by omega) (by omega)]
    exact VRc hv hc3
  have h_vp : ∀ p : Nat, (p : Int) < iI s' 341 0 → VP (iI s' 341) p := fun p hp => by
    rw [e 0 (by omega) (by omega)] at hp
    have d := VRp hv hp
    unfold VP at d ⊢
    rw [e (8 + 5 * p + 0) (by omega) (by omega), e (8 + 5 * p + 1) (by omega) (by omega), e (8 + 5 * p + 2) (by omega) (by omega), e (8 + 5 * p + 3) (by omega) (by omega), e (8 + 5 * p + 4) (by omega) (by omega)]
    exact d
  have h_vs : ∀ j, j < 4 → VS (iI s' 341) j := fun j hj => by
    have d := VRs hv hj
    unfold VS at d ⊢
    by_cases h : x ≤ j ∧ j < n
    · have d := VRs hv (j := j + 1) (by omega)
      unfold VS at d
      rw [show 38 + 3 * (j + 1) + 0 = 38 + 3 * j + 3 + 0 by omega, show 38 + 3 * (j + 1) + 1 = 38 + 3 * j + 3 + 1 by omega, show 38 + 3 * (j + 1) + 2 = 38 + 3 * j + 3 + 2 by omega] at d
      rw [h3 j 0 h.1 h.2 (by omega), h3 j 1 h.1 h.2 (by omega), h3 j 2 h.1 h.2 (by omega)]
      exact d
    · rw [e (38 + 3 * j + 0) (by omega) (by omega), e (38 + 3 * j + 1) (by omega) (by omega), e (38 + 3 * j + 2) (by omega) (by omega)]
      exact d
  have h_vq : ∀ q : Nat, (q : Int) < iI s' 341 1 → VQ (iI s' 341) q := fun q hq => by
    rw [e 1 (by omega) (by omega)] at hq
    have d := VRq hv hq
    unfold VQ at d ⊢
    rw [e (50 + 10 * q + 0) (by omega) (by omega), e (50 + 10 * q + 1) (by omega) (by omega), e (50 + 10 * q + 2) (by omega) (by omega), e (50 + 10 * q + 3) (by omega) (by omega), e (50 + 10 * q + 4) (by omega) (by omega), e (50 + 10 * q + 5) (by omega) (by omega), e (50 + 10 * q + 6) (by omega) (by omega), e (50 + 10 * q + 7) (by omega) (by omega), e (50 + 10 * q + 8) (by omega) (by omega), e (50 + 10 * q + 9) (by omega) (by omega), e 0 (by omega) (by omega)]
    exact d
  have h_vd : VD (iI s' 341) := fun q r hq hr hne hb1 hb2 hat => by
    rw [e 1 (by omega) (by omega)] at hq hr
    rw [e (50 + 10 * q + 8) (by omega) (by omega)] at hb1
    rw [e (50 + 10 * r + 8) (by omega) (by omega)] at hb2
    rw [e (50 + 10 * q + 6) (by omega) (by omega), e (50 + 10 * r + 6) (by omega) (by omega)] at hat
    rw [e (50 + 10 * q + 4) (by omega) (by omega), e (50 + 10 * q + 5) (by omega) (by omega), e (50 + 10 * r + 4) (by omega) (by omega), e (50 + 10 * r + 5) (by omega) (by omega)]
    exact VRd hv q r hq hr hne hb1 hb2 hat
  refine ⟨⟨h_vn, h_vl, h_vp, h_vs, h_vq, h_vd⟩, ⟨⟨h_pc, h_qc, h_sc, h_tn, h_gp⟩, fun c hc3 => h_lm c hc3, fun p i hp hi => ?_, fun p i hp hi => ?_, fun q hq => ?_⟩⟩
  · rw [Nat.zero_add]; exact h_p p i hp hi
  · rw [Nat.zero_add]; exact h_s p i hp hi
  · rw [Nat.zero_add]; exact h_q q hq
theorem Cmp_move {s s' : Mem} (hC : Cmp s) {x : Nat} {v : Int} (hx : (x : Int) < iI s 341 1) (e : ∀ k, k < 170 → ¬ (k = 50 + 10 * x + 6) → iI s' 341 k = iI s 341 k) (f : ∀ k j, k ≤ 26 → ¬ (k = 9 + x ∧ j = 7) → iI s' k j = iI s k j) (fL : ∀ k, k ≤ 26 → gL s' k 6 = gL s k 6) (h1 : iI s' 341 (50 + 10 * x + 6) = v) (h2 : iI s' (9 + x) 7 = v) (v0 : 0 ≤ v) (v1 : v < iI s 341 0) (hd : ∀ r : Nat, (r : Int) < iI s 341 1 → r ≠ x → iI s 341 (50 + 10 * x + 8) = 1 → iI s 341 (50 + 10 * r + 8) = 1 → iI s 341 (50 + 10 * r + 6) = v → iI s 341 (50 + 10 * x + 4) + iI s 341 (50 + 10 * x + 5) ≤ iI s 341 (50 + 10 * r + 4) ∨ iI s 341 (50 + 10 * r + 4) + iI s 341 (50 + 10 * r + 5) ≤ iI s 341 (50 + 10 * x + 4)) : Cmp s' := by
  obtain ⟨hv, hc⟩ := hC
  have bn := VRn hv
  unfold VN at bn
  have h_pc : iI s' 0 1 = iI s' 341 0 := by
    rw [f 0 1 (by omega) (by omega), e 0 (by omega) (by omega)]
    exact c_pc hc
  have h_qc : iI s' 0 3 = iI s' 341 1 := by
    rw [f 0 3 (by omega) (by omega), e 1 (by omega) (by omega)]
    exact c_qc hc
  have h_sc : iI s' 0 5 = iI s' 341 2 := by
    rw [f 0 5 (by omega) (by omega), e 2 (by omega) (by omega)]
    exact c_sc hc
  have h_tn : iI s' 0 8 = iI s' 341 3 := by
    rw [f 0 8 (by omega) (by omega), e 3 (by omega) (by omega)]
    exact c_tn hc
  have h_gp : iI s' 0 7 = iI s' 341 4 := by
    rw [f 0 7 (by omega) (by omega), e 4 (by omega) (by omega)]
    exact c_gp hc
  have h_lm : ∀ c, c < 3 → iI s' 26 c = iI s' 341 (5 + c) := fun c hc3 => by
    rw [f 26 c (by omega) (by omega), e (5 + c) (by omega) (by omega)]
    exact c_lm hc hc3
  have h_p : ∀ p i : Nat, (p : Int) < iI s' 341 0 → i < 5 → iI s' (2 + p) i = iI s' 341 (8 + 5 * p + i) := fun p i hp hi => by
    rw [e 0 (by omega) (by omega)] at hp
    rw [f (2 + p) i (by omega) (by omega), e (8 + 5 * p + i) (by omega) (by omega)]
    exact c_p hc hp hi
  have h_s : ∀ p i : Nat, (p : Int) < iI s' 341 2 → i < 3 → iI s' (22 + p) i = iI s' 341 (38 + 3 * p + i) := fun p i hp hi => by
    rw [e 2 (by omega) (by omega)] at hp
    rw [f (22 + p) i (by omega) (by omega), e (38 + 3 * p + i) (by omega) (by omega)]
    exact c_s hc hp hi
  have h_q : ∀ q : Nat, (q : Int) < iI s' 341 1 → PR s' (9 + q) (iI s' 341) q := fun q hq => by
    rw [e 1 (by omega) (by omega)] at hq
    refine ⟨fun i hi => ?_, ?_, ?_, ?_, ?_, ?_⟩
    · rw [f (9 + q) i (by omega) (by omega), e (50 + 10 * q + i) (by omega) (by omega)]; exact c_q hc hq hi
    · rw [fL (9 + q) (by omega), e (50 + 10 * q + 4) (by omega) (by omega), e (50 + 10 * q + 5) (by omega) (by omega)]; exact c_qL hc hq
    · by_cases h : q = x
      · subst h; rw [h1, h2]
      · rw [f (9 + q) 7 (by omega) (by omega), e (50 + 10 * q + 6) (by omega) (by omega)]; exact c_q7 hc hq
    · rw [f (9 + q) 8 (by omega) (by omega), e (50 + 10 * q + 7) (by omega) (by omega)]; exact c_q8 hc hq
    · rw [f (9 + q) 9 (by omega) (by omega), e (50 + 10 * q + 9) (by omega) (by omega)]; exact c_q9 hc hq
    · rw [f (9 + q) 10 (by omega) (by omega), e (50 + 10 * q + 8) (by omega) (by omega)]; exact c_q10 hc hq
  have h_vn : VN (iI s' 341) := by
    unfold VN
    rw [e 0 (by omega) (by omega), e 1 (by omega) (by omega), e 2 (by omega) (by omega), e 3 (by omega) (by omega), e 4 (by omega) (by omega)]
    exact bn
  have h_vl : ∀ c, c < 3 → 0 ≤ iI s' 341 (5 + c) ∧ iI s' 341 (5 + c) ≤ 40 := fun c hc3 => by
    rw [e (5 + c) (by omega) (by omega)]
    exact VRc hv hc3
  have h_vp : ∀ p : Nat, (p : Int) < iI s' 341 0 → VP (iI s' 341) p := fun p hp => by
    rw [e 0 (by omega) (by omega)] at hp
    have d := VRp hv hp
    unfold VP at d ⊢
    rw [e (8 + 5 * p + 0) (by omega) (by omega), e (8 + 5 * p + 1) (by omega) (by omega), e (8 + 5 * p + 2) (by omega) (by omega), e (8 + 5 * p + 3) (by omega) (by omega), e (8 + 5 * p + 4) (by omega) (by omega)]
    exact d
  have h_vs : ∀ j, j < 4 → VS (iI s' 341) j := fun j hj => by
    have d := VRs hv hj
    unfold VS at d ⊢
    rw [e (38 + 3 * j + 0) (by omega) (by omega), e (38 + 3 * j + 1) (by omega) (by omega), e (38 + 3 * j + 2) (by omega) (by omega)]
    exact d
  have h_vq : ∀ q : Nat, (q : Int) < iI s' 341 1 → VQ (iI s' 341) q := fun q hq => by
    rw [e 1 (by omega) (by omega)] at hq
    have d := VRq hv hq
    unfold VQ at d ⊢
    rw [e (50 + 10 * q + 0) (by omega) (by omega), e (50 + 10 * q + 1) (by omega) (by omega), e (50 + 10 * q + 2) (by omega) (by omega), e (50 + 10 * q + 3) (by omega) (by omega), e (50 + 10 * q + 4) (by omega) (by omega), e (50 + 10 * q + 5) (by omega) (by omega), e (50 + 10 * q + 7) (by omega) (by omega), e (50 + 10 * q + 8) (by omega) (by omega), e (50 + 10 * q + 9) (by omega) (by omega), e 0 (by omega) (by omega)]
    by_cases h : q = x
    · subst h; rw [h1]; omega
    · rw [e (50 + 10 * q + 6) (by omega) (by omega)]; exact d
  have h_vd : VD (iI s' 341) := fun q r hq hr hne hb1 hb2 hat => by
    rw [e 1 (by omega) (by omega)] at hq hr
    rw [e (50 + 10 * q + 8) (by omega) (by omega)] at hb1
    rw [e (50 + 10 * r + 8) (by omega) (by omega)] at hb2
    rw [e (50 + 10 * q + 4) (by omega) (by omega), e (50 + 10 * q + 5) (by omega) (by omega), e (50 + 10 * r + 4) (by omega) (by omega), e (50 + 10 * r + 5) (by omega) (by omega)]
    by_cases h : q = x
    · subst h
      rw [h1, e (50 + 10 * r + 6) (by omega) (by omega)] at hat
      exact hd r hr (Ne.symm hne) hb1 hb2 hat.symm
    · by_cases h' : r = x
      · subst h'
        rw [h1, e (50 + 10 * q + 6) (by omega) (by omega)] at hat
        exact (hd q hq h hb2 hb1 hat).symm
      · rw [e (50 + 10 * q + 6) (by omega) (by omega), e (50 + 10 * r + 6) (by omega) (by omega)] at hat
        exact VRd hv q r hq hr hne hb1 hb2 hat
  refine ⟨⟨h_vn, h_vl, h_vp, h_vs, h_vq, h_vd⟩, ⟨⟨h_pc, h_qc, h_sc, h_tn, h_gp⟩, fun c hc3 => h_lm c hc3, fun p i hp hi => ?_, fun p i hp hi => ?_, fun q hq => ?_⟩⟩
  · rw [Nat.zero_add]; exact h_p p i hp hi
  · rw [Nat.zero_add]; exact h_s p i hp hi
  · rw [Nat.zero_add]; exact h_q q hq
theorem Cmp_cancel {s s' : Mem} (hC : Cmp s) {x : Nat} {v : Int} (hx : (x : Int) < iI s 341 1) (e : ∀ k, k < 170 → ¬ (k = 50 + 10 * x + 8 ∨ k = 50 + 10 * x + 9) → iI s' 341 k = iI s 341 k) (f : ∀ k j, k ≤ 26 → ¬ (k = 9 + x ∧ (j = 9 ∨ j = 10)) → iI s' k j = iI s k j) (fL : ∀ k, k ≤ 26 → gL s' k 6 = gL s k 6) (h1 : iI s' 341 (50 + 10 * x + 8) = 0) (h3 : iI s' 341 (50 + 10 * x + 9) = v) (h2 : iI s' (9 + x) 10 = 0) (h4 : iI s' (9 + x) 9 = v) (v0 : 0 ≤ v) (v1 : v ≤ 2000) : Cmp s' := by
  obtain ⟨hv, hc⟩ := hC
  have bn := VRn hv
  unfold VN at bn
  have h_pc : iI s' 0 1 = iI s' 341 0 := by
    rw [f 0 1 (by omega) (by omega), e 0 (by omega) (by omega)]
    exact c_pc hc
  have h_qc : iI s' 0 3 = iI s' 341 1 := by
    rw [f 0 3 (by omega) (by omega), e 1 (by omega) (by omega)]
    exact c_qc hc
  have h_sc : iI s' 0 5 = iI s' 341 2 := by
    rw [f 0 5 (by omega) (by omega), e 2 (by omega) (by omega)]
    exact c_sc hc
  have h_tn : iI s' 0 8 = iI s' 341 3 := by
    rw [f 0 8 (by omega) (by omega), e 3 (by omega) (by omega)]
    exact c_tn hc
  have h_gp : iI s' 0 7 = iI s' 341 4 := by
    rw [f 0 7 (by omega) (by omega), e 4 (by omega) (by omega)]
    exact c_gp hc
  have h_lm : ∀ c, c < 3 → iI s' 26 c = iI s' 341 (5 + c) := fun c hc3 => by
    rw [f 26 c (by omega) (by omega), e (5 + c) (by omega) (by omega)]
    exact c_lm hc hc3
  have h_p : ∀ p i : Nat, (p : Int) < iI s' 341 0 → i < 5 → iI s' (2 + p) i = iI s' 341 (8 + 5 * p + i) := fun p i hp hi => by
    rw [e 0 (by omega) (by omega)] at hp
    rw [f (2 + p) i (by omega) (by omega), e (8 + 5 * p + i) (by omega) (by omega)]
    exact c_p hc hp hi
  have h_s : ∀ p i : Nat, (p : Int) < iI s' 341 2 → i < 3 → iI s' (22 + p) i = iI s' 341 (38 + 3 * p + i) := fun p i hp hi => by
    rw [e 2 (by omega) (by omega)] at hp
    rw [f (22 + p) i (by omega) (by omega), e (38 + 3 * p + i) (by omega) (by omega)]
    exact c_s hc hp hi
  have h_q : ∀ q : Nat, (q : Int) < iI s' 341 1 → PR s' (9 + q) (iI s' 341) q := fun q hq => by
    rw [e 1 (by omega) (by omega)] at hq
    refine ⟨fun i hi => ?_, ?_, ?_, ?_, ?_, ?_⟩
    · rw [f (9 + q) i (by omega) (by omega), e (50 + 10 * q + i) (by omega) (by omega)]; exact c_q hc hq hi
    · rw [fL (9 + q) (by omega), e (50 + 10 * q + 4) (by omega) (by omega), e (50 + 10 * q + 5) (by omega) (by omega)]; exact c_qL hc hq
    · rw [f (9 + q) 7 (by omega) (by omega), e (50 + 10 * q + 6) (by omega) (by omega)]; exact c_q7 hc hq
    · rw [f (9 + q) 8 (by omega) (by omega), e (50 + 10 * q + 7) (by omega) (by omega)]; exact c_q8 hc hq
    · by_cases h : q = x
      · subst h; rw [h3, h4]
      · rw [f (9 + q) 9 (by omega) (by omega), e (50 + 10 * q + 9) (by omega) (by omega)]; exact c_q9 hc hq
    · by_cases h : q = x
      · subst h; rw [h1, h2]
      · rw [f (9 + q) 10 (by omega) (by omega), e (50 + 10 * q + 8) (by omega) (by omega)]; exact c_q10 hc hq
  have h_vn : VN (iI s' 341) := by
    unfold VN
    rw [e 0 (by omega) (by omega), e 1 (by omega) (by omega), e 2 (by omega) (by omega), e 3 (by omega) (by omega), e 4 (by omega) (by omega)]
    exact bn
  have h_vl : ∀ c, c < 3 → 0 ≤ iI s' 341 (5 + c) ∧ iI s' 341 (5 + c) ≤ 40 := fun c hc3 => by
    rw [e (5 + c) (by omega) (by omega)]
    exact VRc hv hc3
  have h_vp : ∀ p : Nat, (p : Int) < iI s' 341 0 → VP (iI s' 341) p := fun p hp => by
    rw [e 0 (by omega) (by omega)] at hp
    have d := VRp hv hp
    unfold VP at d ⊢
    rw [e (8 + 5 * p + 0) (by omega) (by omega), e (8 + 5 * p + 1) (by omega) (by omega), e (8 + 5 * p + 2) (by omega) (by omega), e (8 + 5 * p + 3) (by omega) (by omega), e (8 + 5 * p + 4) (by omega) (by omega)]
    exact d
  have h_vs : ∀ j, j < 4 → VS (iI s' 341) j := fun j hj => by
    have d := VRs hv hj
    unfold VS at d ⊢
    rw [e (38 + 3 * j + 0) (by omega) (by omega), e (38 + 3 * j + 1) (by omega) (by omega), e (38 + 3 * j + 2) (by omega) (by omega)]
    exact d
  have h_vq : ∀ q : Nat, (q : Int) < iI s' 341 1 → VQ (iI s' 341) q := fun q hq => by
    rw [e 1 (by omega) (by omega)] at hq
    have d := VRq hv hq
    unfold VQ at d ⊢
    rw [e (50 + 10 * q + 0) (by omega) (by omega), e (50 + 10 * q + 1) (by omega) (by omega), e (50 + 10 * q + 2) (by omega) (by omega), e (50 + 10 * q + 3) (by omega) (by omega), e (50 + 10 * q + 4) (by omega) (by omega), e (50 + 10 * q + 5) (by omega) (by omega), e (50 + 10 * q + 6) (by omega) (by omega), e (50 + 10 * q + 7) (by omega) (by omega), e 0 (by omega) (by omega)]
    by_cases h : q = x
    · subst h; rw [h1, h3]; omega
    · rw [e (50 + 10 * q + 8) (by omega) (by omega), e (50 + 10 * q + 9) (by omega) (by omega)]; exact d
  have h_vd : VD (iI s' 341) := fun q r hq hr hne hb1 hb2 hat => by
    rw [e 1 (by omega) (by omega)] at hq hr
    have hqx : q ≠ x := fun h => by subst h; rw [h1] at hb1; omega
    have hrx : r ≠ x := fun h => by subst h; rw [h1] at hb2; omega
    rw [e (50 + 10 * q + 8) (by omega) (by omega)] at hb1
    rw [e (50 + 10 * r + 8) (by omega) (by omega)] at hb2
    rw [e (50 + 10 * q + 6) (by omega) (by omega), e (50 + 10 * r + 6) (by omega) (by omega)] at hat
    rw [e (50 + 10 * q + 4) (by omega) (by omega), e (50 + 10 * q + 5) (by omega) (by omega), e (50 + 10 * r + 4) (by omega) (by omega), e (50 + 10 * r + 5) (by omega) (by omega)]
    exact VRd hv q r hq hr hne hb1 hb2 hat
  refine ⟨⟨h_vn, h_vl, h_vp, h_vs, h_vq, h_vd⟩, ⟨⟨h_pc, h_qc, h_sc, h_tn, h_gp⟩, fun c hc3 => h_lm c hc3, fun p i hp hi => ?_, fun p i hp hi => ?_, fun q hq => ?_⟩⟩
  · rw [Nat.zero_add]; exact h_p p i hp hi
  · rw [Nat.zero_add]; exact h_s p i hp hi
  · rw [Nat.zero_add]; exact h_q q hq
