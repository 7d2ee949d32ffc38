abbrev rwR (s : Mem) (r : Nat) : Nat → Int := fun k => iI s 341 (170 * r + k)
def HR (s : Mem) (c m : Nat) : Prop := ∀ r, 1 ≤ r → r ≤ c → VR (rwR s r) ∧ CR s (64 + 32 * ((m + 7 + r - c) % 8)) (rwR s r)
def Hist (s : Mem) (c m : Nat) : Prop := (iI s 334 2 = c ∧ iI s 334 1 = m ∧ iI s 340 2 = c ∧ c ≤ 8 ∧ m < 8) ∧ HR s c m
def kpC (m k j : Nat) : Prop := cpC (64 + 32 * m) k j ∨ k = 334 ∧ (j = 1 ∨ j = 2)
theorem cA_k {m : Nat} (h : m < 8) : cA (64 + 32 * m) := by unfold cA; omega
theorem cA_0 : cA 0 := ⟨by decide, by decide⟩
theorem cA_32 : cA 32 := ⟨by decide, by decide⟩
theorem X2_keep {fl : Nat} (hfl : 1000 ≤ fl) {s : Mem} (hs : RO s) (hc : CR s 0 (iI s 341)) (hv : VR (iI s 341)) {c m : Nat} (hh : Hist s c m) : ∃ s', F_X2_keep fl 334 0 s = some s' ∧ FG s s' (kpC m) ∧ iI s' 334 1 = ((m + 1) % 8 : Nat) ∧ iI s' 334 2 = ((if c = 8 then 8 else c + 1 : Nat) : Int) ∧ CR s' (64 + 32 * m) (iI s 341) := by
  obtain ⟨⟨h2, h1, h3, h4, h5⟩, hr⟩ := hh
  obtain ⟨s1, f1, F, f3⟩ := X1_copyFrom (fl := fl) hfl (cA_k h5) cA_0 (by omega) hv hs hc
  have e1 : iI s1 334 1 = m := by rw [FG_I F (by unfold cpC; omega)]; exact h1
  have e2 : iI s1 334 2 = c := by rw [FG_I F (by unfold cpC; omega)]; exact h2
  have e2' : ∀ v, iI (pI s1 334 1 v) 334 2 = c := fun v => by rw [iI_pn (Or.inr (by omega))]; exact e2
  have key : ∀ (n : Nat), n < 8 → ∃ s', B_X2_keep_35 fl 334 334 (oI n) s1 = some s' ∧ FG s1 s' (kpC m) ∧ iI s' 334 1 = n ∧ iI s' 334 2 = ((if c = 8 then 8 else c + 1 : Nat) : Int) ∧ CR s' (64 + 32 * m) (iI s 341) := by
    intro n hn
    have G1 : FG s1 (pI s1 334 1 (oI n)) (fun k j => k = 334 ∧ (j = 1 ∨ j = 2)) := FG_p _ _ _ _ ⟨rfl, Or.inl rfl⟩
    have G2 : FG (pI s1 334 1 (oI n)) (pI (pI s1 334 1 (oI n)) 334 2 (oI ((if c = 8 then 8 else c + 1 : Nat) : Int))) (fun k j => k = 334 ∧ (j = 1 ∨ j = 2)) := FG_p _ _ _ _ ⟨rfl, Or.inr rfl⟩
    have G := FG_trans G1 G2
    refine ⟨pI (pI s1 334 1 (oI n)) 334 2 (oI ((if c = 8 then 8 else c + 1 : Nat) : Int)), ?_, FG_mono G (by unfold kpC; omega), ?_, ?_, CR_FG G (by unfold out; omega) (VRn hv) f3⟩
    · unfold B_X2_keep_35 F_J9_min_7cf53
      simp (disch := omega) only [bd_some, nx_eq, xb_r, xb_l, xc_r, xc_l, oI_lit, oI_nI, oI_add, oI_sub, oI_mul, oI_neg, gI_oI, ldA_I, ldA_L, ldO_I, ldO_L, oB_z, oB_o, gd_oB, lgc0n, oI_litN, ← Int.natCast_add, ← Int.natCast_mul, Int.toNat_natCast, if_true, if_false, oI_le, oI_lt, oI_eq, oI_nat, oI_inR, gd_t, e2']
      split
      · rw [if_pos (by omega)]; rfl
      · rw [if_neg (by omega)]; rfl
    · rw [iI_pn (Or.inr (by omega)), iI_pe (by omega) (by omega)]
    · rw [iI_pe (by split <;> omega) (by split <;> omega)]
  unfold F_X2_keep
  simp (disch := omega) only [bd_some, nx_eq, xb_r, xb_l, xc_r, xc_l, oI_lit, oI_nI, oI_add, oI_sub, oI_mul, oI_neg, gI_oI, ldA_I, ldA_L, ldO_I, ldO_L, oB_z, oB_o, gd_oB, lgc0n, oI_litN, ← Int.natCast_add, ← Int.natCast_mul, Int.toNat_natCast, if_true, if_false, oI_le, oI_lt, oI_eq, oI_nat, oI_inR, gd_t, ld_334_0 hs, h1, ld_hk hs, f1, e1]
  by_cases hm : m = 7
  · obtain ⟨s', g1, g2, g3, g4, g5⟩ := key 0 (by omega)
    refine ⟨s', ?_, FG_trans (FG_mono F (fun k j h => Or.inl h)) g2, by rw [g3, hm], g4, g5⟩
    rw [if_pos (by omega)]
    exact g1
  · obtain ⟨s', g1, g2, g3, g4, g5⟩ := key (m + 1) (by omega)
    refine ⟨s', ?_, FG_trans (FG_mono F (fun k j h => Or.inl h)) g2, by rw [g3]; omega, g4, g5⟩
    rw [if_neg (by omega)]
    exact g1
-- both have kept: the class first, then something between, then the reference
theorem hist_keep {s s1 s2 s3 : Mem} {c m : Nat} {C : Nat → Nat → Prop} (hh : Hist s c m) (hv : VR (iI s 341)) (F1 : FG s s1 (kpC m)) (h1 : iI s1 334 1 = ((m + 1) % 8 : Nat)) (h2 : iI s1 334 2 = ((if c = 8 then 8 else c + 1 : Nat) : Int)) (h3 : CR s1 (64 + 32 * m) (iI s 341))
    (F2 : FG s1 s2 C) (hC : ∀ k j, C k j → (k ≤ 26 ∨ 320 ≤ k) ∧ k ≠ 334 ∧ (k ≠ 340 ∨ j ≠ 2) ∧ k ≠ 341) (hk : KP s2 s3 c) : Hist s3 (if c = 8 then 8 else c + 1) ((m + 1) % 8) := by
  obtain ⟨⟨a1, a2, a3, a4, a5⟩, hr⟩ := hh
  obtain ⟨F3, k1, k2, k3⟩ := hk
  have F3' : FG s2 s3 (fun k j => k = 340 ∧ j = 2 ∨ k = 341 ∧ 170 ≤ j ∧ j < 1530) := FG_FI F3
  have hC' : ∀ k j, (26 < k ∧ k < 320 ∨ k = 334 ∨ k = 340 ∧ j = 2 ∨ k = 341) → ¬ C k j := fun k j h hc => by
    have := hC k j hc
    omega
  have hx : ∀ k, iI s2 341 k = iI s 341 k := fun k => by rw [FG_I F2 (hC' 341 k (by omega)), FG_I F1 (by unfold kpC cpC; omega)]
  refine ⟨⟨?_, ?_, k1, by split <;> omega, by omega⟩, ?_⟩
  · rw [FG_I F3' (by omega), FG_I F2 (hC' _ _ (by omega))]; exact h2
  · rw [FG_I F3' (by omega), FG_I F2 (hC' _ _ (by omega))]; exact h1
  · intro r hr1 hr2
    have out3 : ∀ A, A ≤ 288 → out (fun k j => k = 340 ∧ j = 2 ∨ k = 341 ∧ 170 ≤ j ∧ j < 1530) A := fun A hA k j h1 h2 => by omega
    have out2 : ∀ A, 64 ≤ A → A ≤ 288 → out C A := fun A hA hA2 k j h1 h2 => hC' k j (by omega)
    by_cases hlast : r = (if c = 8 then 8 else c + 1)
    · have e : ∀ k, k < 170 → rwR s3 r k = iI s 341 k := fun k hk => by
        show iI s3 341 (170 * r + k) = _
        rw [hlast, k3 k hk, hx]
      refine ⟨VR_cg e hv, ?_⟩
      have em : ((m + 1) % 8 + 7 + r - (if c = 8 then 8 else c + 1)) % 8 = m := by rw [← hlast]; omega
      rw [em]
      exact CR_cg e (VRn hv) (CR_FG F3' (out3 _ (by omega)) (VRn hv) (CR_FG F2 (out2 _ (by omega) (by omega)) (VRn hv) h3))
    · have hrlt : r < (if c = 8 then 8 else c + 1) := by omega
      obtain ⟨q, hq⟩ : ∃ q, q = (if c = 8 then r + 1 else r) := ⟨_, rfl⟩
      have hq1 : 1 ≤ q ∧ q ≤ c := by rw [hq]; split <;> (split at hrlt <;> omega)
      obtain ⟨v1, v2⟩ := hr q hq1.1 hq1.2
      have e : ∀ k, k < 170 → rwR s3 r k = rwR s q k := fun k hk => by
        show iI s3 341 (170 * r + k) = iI s 341 (170 * q + k)
        rw [k2 r hr1 hrlt k hk, hx, hq]
      refine ⟨VR_cg e v1, ?_⟩
      have em : ((m + 1) % 8 + 7 + r - (if c = 8 then 8 else c + 1)) % 8 = (m + 7 + q - c) % 8 := by
        rw [hq]
        split <;> omega
      have en : (m + 7 + q - c) % 8 ≠ m := by
        rw [hq]
        split <;> (split at hrlt <;> omega)
      rw [em]
      generalize (m + 7 + q - c) % 8 = x at *
      have hx8 : x < 8 := by omega
      refine CR_cg e (VRn v1) (CR_FG F3' (out3 _ (by omega)) (VRn v1) (CR_FG F2 (out2 _ (by omega) (by omega)) (VRn v1) (CR_FG F1 ?_ (VRn v1) v2)))
      intro k j g1 g2
      unfold kpC cpC
      omega
