-- the memory that the constructors leave
theorem rfx_dom {k j r : Nat} (h : rfx k j = some r) : (k < 320 ∧ j < 12 ∧ (k % 32 = 0 ∨ k % 32 = 1 ∨ k % 32 = 8 ∨ k % 32 = 21)) ∨ (320 ≤ k ∧ k ≤ 340 ∧ j < 18) := by
  by_cases hk : k < 320
  · refine Or.inl ⟨hk, ?_⟩
    unfold rfx at h
    rw [if_pos hk] at h
    dsimp only at h
    by_cases o0 : k % 32 = 0
    · refine ⟨Classical.byContradiction fun hj => ?_, Or.inl o0⟩
      rw [if_pos o0, if_neg (by omega), if_neg (by omega), if_neg (by omega), if_neg (by omega)] at h
      cases h
    rw [if_neg o0] at h
    by_cases o1 : k % 32 = 1
    · refine ⟨Classical.byContradiction fun hj => ?_, Or.inr (Or.inl o1)⟩
      rw [if_pos o1, if_neg (by omega)] at h
      cases h
    rw [if_neg o1] at h
    by_cases o8 : k % 32 = 8
    · refine ⟨Classical.byContradiction fun hj => ?_, Or.inr (Or.inr (Or.inl o8))⟩
      rw [if_pos o8, if_neg (by omega)] at h
      cases h
    rw [if_neg o8] at h
    by_cases o21 : k % 32 = 21
    · refine ⟨Classical.byContradiction fun hj => ?_, Or.inr (Or.inr (Or.inr o21))⟩
      rw [if_pos o21, if_neg (by omega)] at h
      cases h
    rw [if_neg o21] at h
    cases h
  · refine Or.inr ⟨by omega, ?_⟩
    unfold rfx at h
    rw [if_neg hk] at h
    refine Classical.byContradiction fun hj => ?_
    by_cases k0 : k = 320
    · rw [if_pos k0, if_neg (by omega), if_neg (by omega), if_neg (by omega), if_neg (by omega), if_neg (by omega), if_neg (by omega)] at h
      cases h
    rw [if_neg k0] at h
    by_cases k1 : k = 321
    · rw [if_pos k1, if_neg (by omega), if_neg (by omega), if_neg (by omega)] at h
      cases h
    rw [if_neg k1] at h
    by_cases k2 : k = 334
    · rw [if_pos k2, if_neg (by omega)] at h
      cases h
    rw [if_neg k2] at h
    by_cases k3 : k = 335
    · rw [if_pos k3, if_neg (by omega)] at h
      cases h
    rw [if_neg k3] at h
    by_cases k4 : k = 336
    · rw [if_pos k4, if_neg (by omega), if_neg (by omega)] at h
      cases h
    rw [if_neg k4] at h
    by_cases k5 : k = 340
    · rw [if_pos k5, if_neg (by omega), if_neg (by omega), if_neg (by omega), if_neg (by omega), if_neg (by omega), if_neg (by omega), if_neg (by omega), if_neg (by omega), if_neg (by omega)] at h
      cases h
    rw [if_neg k5] at h
    cases h
theorem R0_a : ∀ a, a < 10 → ∀ j, j < 12 → ∀ o ∈ [0, 1, 8, 21], rfx (32 * a + o) j = none ∨ gR mem0 (32 * a + o) j = rfx (32 * a + o) j := by decide +kernel
theorem R0_b : ∀ a, a < 21 → ∀ j, j < 18 → rfx (320 + a) j = none ∨ gR mem0 (320 + a) j = rfx (320 + a) j := by decide +kernel
theorem RO_mem0 : RO mem0 := by
  intro k j r h
  rcases rfx_dom h with ⟨h1, h2, h3⟩ | ⟨h1, h2, h3⟩
  · have e := R0_a (k / 32) (by omega) j h2 (k % 32) (by rcases h3 with z | z | z | z <;> rw [z] <;> decide)
    rw [show 32 * (k / 32) + k % 32 = k by omega, h] at e
    exact e.resolve_left (fun z => nomatch z)
  · have e := R0_b (k - 320) (by omega) j h3
    rw [show 320 + (k - 320) = k by omega, h] at e
    exact e.resolve_left (fun z => nomatch z)
theorem I0_341 : iI mem0 341 0 = 0 ∧ iI mem0 341 1 = 0 ∧ iI mem0 341 2 = 0 ∧ iI mem0 341 3 = 0 ∧ iI mem0 341 4 = 1 := by decide +kernel
theorem I0_lim : ∀ c, c < 3 → iI mem0 341 (5 + c) = 16 ∧ iI mem0 (0 + 26) c = 16 := by decide +kernel
theorem I0_sea : ∀ j, j < 4 → iI mem0 341 (38 + 3 * j + 0) = 0 ∧ iI mem0 341 (38 + 3 * j + 1) = 0 ∧ iI mem0 341 (38 + 3 * j + 2) = 0 := by decide +kernel
theorem I0_cmp : iI mem0 0 1 = 0 ∧ iI mem0 0 3 = 0 ∧ iI mem0 0 5 = 0 ∧ iI mem0 0 8 = 0 ∧ iI mem0 0 7 = 1 := by decide +kernel
theorem I0_cst : gR mem0 323 0 = some 322 ∧ iI mem0 324 0 = -1 ∧ iI mem0 325 0 = -1 ∧ iI mem0 327 0 = -1 := by decide +kernel
theorem I0_340 : iI mem0 340 2 = 0 ∧ iI mem0 340 3 = 0 ∧ iI mem0 340 14 = 0 ∧ iI mem0 340 15 = 0 ∧ iI mem0 340 18 = 0 ∧ iI mem0 340 21 = -1 := by decide +kernel
theorem I0_320 : iI mem0 320 3 = 0 ∧ iI mem0 320 6 = 0 ∧ iI mem0 320 7 = 0 ∧ iI mem0 334 1 = 0 ∧ iI mem0 334 2 = 0 ∧ iI mem0 336 1 = 0 ∧ iI mem0 336 3 = -1 := by decide +kernel
theorem Inv_mem0 : Inv mem0 := by
  obtain ⟨a0, a1, a2, a3, a4⟩ := I0_341
  obtain ⟨b0, b1, b2, b3, b4⟩ := I0_cmp
  obtain ⟨c0, c1, c2, c3, c4, c5⟩ := I0_340
  obtain ⟨d0, d1, d2, d3, d4, d5, d6⟩ := I0_320
  refine ⟨RO_mem0, I0_cst, ⟨⟨?_, fun c hc => ?_, fun p hp => ?_, fun j hj => ?_, fun q hq => ?_, fun q r hq => ?_⟩, ⟨?_, fun c hc => ?_, fun p f hp => ?_, fun j f hj => ?_, fun q hq => ?_⟩⟩, ⟨0, 0, ⟨?_, fun r h1 h2 => ?_⟩⟩, ⟨?_, ?_, ?_, fun h => ?_⟩, ⟨?_, ?_, ?_⟩, ⟨?_, ?_, ?_, fun k h1 h2 => ?_⟩, ⟨⟨?_, ?_, ?_⟩, ⟨?_, ?_, ?_⟩, fun k h1 h2 => ?_⟩⟩
  · unfold VN
    omega
  · have := I0_lim c hc
    omega
  · exfalso; omega
  · obtain ⟨x, y, z⟩ := I0_sea j hj
    unfold VS
    rw [x, y, z]
    omega
  · exfalso; omega
  · exfalso; omega
  · exact ⟨by rw [b0, a0], by rw [b1, a1], by rw [b2, a2], by rw [b3, a3], by rw [b4, a4]⟩
  · have := I0_lim c hc
    rw [this.1, this.2]
  · exfalso; omega
  · exfalso; omega
  · exfalso; omega
  · exact ⟨by rw [d4]; rfl, by rw [d3]; rfl, by rw [c0]; rfl, by omega, by omega⟩
  · exfalso; omega
  · rw [d0, c1]
  · omega
  · omega
  · exfalso; omega
  · rw [d1, c2]
  · omega
  · omega
  · rw [d2, c3]
  · omega
  · omega
  · exfalso; omega
  · rw [d5, c4]
  · omega
  · omega
  · rw [d6, c5]
  · omega
  · omega
  · exfalso; omega
