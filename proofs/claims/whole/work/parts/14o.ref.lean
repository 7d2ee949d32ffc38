theorem X8_level11 {fl : Nat} (hfl : 1000 ≤ fl) {M : Mem} {t : Nat → Int} {d f0 : Nat} {mv : Nat → Nat} {mo : Int32} {self : Nat → Int32 → Int32 → Mem → Option (Int32 × Mem)} {Fd : Nat → Mem → Prop} {NF : Nat → Prop} (hM : MB M) (hd : d ≤ 1) (ht : ∀ q, f0 ≤ q → q < 12 → t q = iI M 342 q)
    (hself : ∀ (k : Nat) (M1 : Mem), f0 ≤ k / 6 → k / 6 < 12 → mvO M (iI M 342) (k / 6) (k % 6) → RSt M M1 (up t (k / 6) (k % 6 : Nat)) (d + 1) (mvU mv d (k / 6)) → ∃ M2 b, self 340 (oI ((k / 6 + 1 : Nat) : Int)) (mo - 1) M1 = some (b, M2) ∧ FI M1 M2 rsC ∧ (b = 1 ∧ Fd k M2 ∨ b = 0 ∧ NF k ∧ RSt M M2 (up t (k / 6) (k % 6 : Nat)) (d + 1) (mvU mv d (k / 6)))) : ∀ (m q : Nat) (M1 : Mem) (f : Nat), iI M 341 1 ≤ (q : Int) + m → q ≤ 12 → m < f → f0 ≤ q → RSt M M1 t d mv → (∀ k, 6 * f0 ≤ k → k < 6 * q → mvO M (iI M 342) (k / 6) (k % 6) → NF k) →
    LV M M1 t d f0 (iI M 341 1).toNat mv Fd NF (B_X8_plans_11 self fl f 340 mo (oI q) M1) (fun M2 => some (0, M2)) := by
  have hM' := hM
  obtain ⟨hv, hF, hn1, hpl⟩ := hM'
  have bn := VRn hv
  unfold VN at bn
  intro m
  induction m with
  | zero =>
    intro q M1 f h hq hf h0 hR hno
    obtain ⟨f, rfl⟩ : ∃ f', f = f' + 1 := ⟨f - 1, by omega⟩
    refine Or.inr ⟨M1, ?_, FI_refl _ _, hR, fun k hk hk2 hm => hno k hk (by omega) hm⟩
    unfold B_X8_plans_11
    rw [ld_340_1 hR.1, bd_some, gd_t (by decide)]
    dsimp only
    rw [show gI M1 341 (1 : Int32).toNatClampNeg = oI (iI M 341 1) from by rw [gI_oI]; exact congrArg oI (hR.2.1.1 1), if_pos (by rw [oI_le (by omega) (by omega) (by omega) (by omega)]; omega)]
  | succ m ih =>
    intro q M1 f h hq hf h0 hR hno
    obtain ⟨f, rfl⟩ : ∃ f', f = f' + 1 := ⟨f - 1, by omega⟩
    have hR' := hR
    obtain ⟨r1, r2, r3, r4, r5, r6⟩ := hR'
    by_cases hqc : iI M 341 1 ≤ (q : Int)
    · refine Or.inr ⟨M1, ?_, FI_refl _ _, hR, fun k hk hk2 hm => hno k hk (by omega) hm⟩
      unfold B_X8_plans_11
      rw [ld_340_1 r1, bd_some, gd_t (by decide)]
      dsimp only
      rw [show gI M1 341 (1 : Int32).toNatClampNeg = oI (iI M 341 1) from by rw [gI_oI]; exact congrArg oI (r2.1 1), if_pos (by rw [oI_le (by omega) (by omega) (by omega) (by omega)]; omega)]
    · have eq1 : oI (q : Int) + 1 = oI ((q + 1 : Nat) : Int) := by rw [oI_lit, oI_add]; rfl
      have tq : (oI (q : Int)).toNatClampNeg = q := by rw [oI_nat (by omega) (by omega)]; rfl
      have cm := X8_canMove (fl := fl) r1 (q := q) (by omega)
      have e42 : iI M1 342 q = iI M 342 q := by rw [r3 q hq, ht q h0 (by omega)]
      rw [e42, r2.1, r2.1] at cm
      have step : B_X8_plans_11 self fl (f + 1) 340 mo (oI q) M1 = (if oB (0 ≤ iI M 342 q ∧ iI M 341 3 ≤ iI M 341 (50 + 10 * q + 4)) = 0 then B_X8_plans_11 self fl f 340 mo (oI ((q + 1 : Nat) : Int)) M1 else B_X8_plans_43 self (B_X8_plans_11 self fl f) fl fl 340 mo (oI q) (oI (iI M 342 q)) (oI ((0 : Nat) : Int)) M1) := by
        conv => lhs; unfold B_X8_plans_11 B_X8_plans_164
        rw [ld_340_1 r1, bd_some, gd_t (by decide)]
        dsimp only
        rw [show gI M1 341 (1 : Int32).toNatClampNeg = oI (iI M 341 1) from by rw [gI_oI]; exact congrArg oI (r2.1 1), if_neg (by rw [oI_le (by omega) (by omega) (by omega) (by omega)]; omega), cm, bd_some, ld_340_4 r1, bd_some, gd_t ((oI_inR (by omega) (by omega)).mpr (by omega)), tq, eq1]
        dsimp only
        rw [show gI M1 342 q = oI (iI M 342 q) from by rw [gI_oI, e42]]
        rfl
      by_cases hcm : 0 ≤ iI M 342 q ∧ iI M 341 3 ≤ iI M 341 (50 + 10 * q + 4)
      · rw [ifB_t hcm] at step
        rw [step]
        rcases X8_level43 (fl := fl) (k11 := B_X8_plans_11 self fl f) hM hd hself (q := q) (by omega) h0 (ht q h0 (by omega)) hcm.1 hcm.2 (iI M 341 0).toNat 0 M1 (iI M 342 q) fl (by omega) (by omega) (RSt_cg (fun z hz => by
            by_cases hz2 : z = q
            · subst hz2; rw [up_e, ht z h0 (by omega)]
            · rw [up_n hz2]) (fun _ _ => rfl) hR) (fun k hk hk2 hm => hno k hk (by omega) hm) with ⟨M2, k, a1, a2, a3⟩ | ⟨M2, a1, a2, a3, a4⟩
        · exact Or.inl ⟨M2, k, a1, a2, a3⟩
        · rw [a1]
          rcases ih (q + 1) M2 f (by omega) (by omega) (by omega) (by omega) a3 a4 with ⟨M3, k, b1, b2, b3⟩ | ⟨M3, b1, b2, b3⟩
          · exact Or.inl ⟨M3, k, b1, FI_trans a2 b2, b3⟩
          · exact Or.inr ⟨M3, b1, FI_trans a2 b2, b3⟩
      · rw [ifB_f hcm] at step
        rw [step]
        exact ih (q + 1) M1 f (by omega) (by omega) (by omega) (by omega) hR (fun k hk hk2 hm => by
          by_cases hkk : k / 6 = q
          · rw [hkk] at hm
            exact absurd ⟨hm.2.2.1, hm.2.2.2.1⟩ hcm
          · exact hno k hk (by omega) hm)
