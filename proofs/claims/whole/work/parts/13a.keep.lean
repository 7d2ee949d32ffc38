-- both have kept and written: the invariant again
def mdC (k j : Nat) : Prop := k ≤ 26 ∨ scC k j ∨ k = 320 ∧ j = 7 ∨ k = 339
def r0C (k j : Nat) : Prop := k = 341 ∧ j < 170 ∨ k = 340 ∧ j = 15 ∨ k = 348
theorem Inv_keep {s s1 s2 s5 s6 : Mem} {c m : Nat} (hI : Inv s) (hh : Hist s c m) (F1 : FG s s1 (kpC m)) (h1 : iI s1 334 1 = ((m + 1) % 8 : Nat)) (h2 : iI s1 334 2 = ((if c = 8 then 8 else c + 1 : Nat) : Int)) (h3 : CR s1 (64 + 32 * m) (iI s 341))
    (F2 : FG s1 s2 mdC) (hk : KP s2 s5 c) (F6 : FG s5 s6 r0C) (hC : Cmp s6) (hL : Lat s6) : Inv s6 := by
  obtain ⟨hs, i1, i2, -, i4, i5, i6, i7⟩ := hI
  have m8 := hh.1.2.2.2.2
  have hi := hist_keep hh i2.1 F1 h1 h2 h3 F2 (by unfold mdC scC; omega) hk
  have F5 : FG s2 s5 (fun k j => k = 340 ∧ j = 2 ∨ k = 341 ∧ 170 ≤ j ∧ j < 1530) := FG_FI hk.1
  have F : FG s s6 (fun k j => kpC m k j ∨ mdC k j ∨ (k = 340 ∧ j = 2 ∨ k = 341 ∧ 170 ≤ j ∧ j < 1530) ∨ r0C k j) := FG_trans (FG_mono F1 (fun k j h => Or.inl h)) (FG_trans (FG_mono F2 (fun k j h => Or.inr (Or.inl h))) (FG_trans (FG_mono F5 (fun k j h => Or.inr (Or.inr (Or.inl h)))) (FG_mono F6 (fun k j h => Or.inr (Or.inr (Or.inr h))))))
  refine ⟨FG_RO F hs, Cst_FG F ?_ i1, hC, ⟨_, _, Hist_FG F6 (by unfold r0C; omega) hi⟩, Snp_FG F ?_ i4, Rsn_FG F ?_ i5, hL, Txt_FG F ?_ i7⟩
  · unfold kpC cpC mdC scC r0C; omega
  · unfold kpC cpC mdC scC r0C; omega
  · unfold kpC cpC mdC scC r0C; omega
  · unfold kpC cpC mdC scC r0C; omega
theorem Lat_keep {s s1 s2 s5 s6 : Mem} {c m : Nat} (hl : Lat s) (m8 : m < 8) (F1 : FG s s1 (kpC m)) {C : Nat → Nat → Prop} (F2 : FG s1 s2 C) (hC : ∀ k j, C k j → (k = 320 → j ≠ 7) ∧ (k = 340 → j ≠ 15) ∧ k ≠ 339 ∧ k ≠ 348) (hk : KP s2 s5 c) {D : Nat → Nat → Prop} (F6 : FG s5 s6 D) (hD : ∀ k j, D k j → (k = 320 → j ≠ 7) ∧ (k = 340 → j ≠ 15) ∧ k ≠ 339 ∧ k ≠ 348) : Lat s6 :=
  Lat_FG F6 hD (Lat_FG (FG_FI hk.1) (by omega) (Lat_FG F2 hC (Lat_FG F1 (by unfold kpC cpC; omega) hl)))
-- what a row and the camp keep where a call writes only in some places
theorem keepK {s : Mem} (hI : Inv s) : ∃ c m, Hist s c m ∧ m < 8 ∧ c ≤ 8 ∧ ∀ fl, 1000 ≤ fl → ∃ s1, F_X2_keep fl 334 0 s = some s1 ∧ FG s s1 (kpC m) ∧ iI s1 334 1 = ((m + 1) % 8 : Nat) ∧ iI s1 334 2 = ((if c = 8 then 8 else c + 1 : Nat) : Int) ∧ CR s1 (64 + 32 * m) (iI s 341) := by
  obtain ⟨hs, -, ⟨hv, hc⟩, ⟨c, m, hh⟩, -⟩ := hI
  exact ⟨c, m, hh, hh.1.2.2.2.2, hh.1.2.2.2.1, fun fl hfl => X2_keep hfl hs hc hv hh⟩
