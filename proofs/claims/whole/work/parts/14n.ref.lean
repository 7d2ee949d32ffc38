def mvU (mv : Nat → Nat) (d q i : Nat) : Nat := if i = d then q else mv i
theorem mvU_e (mv : Nat → Nat) (d q : Nat) : mvU mv d q d = q := if_pos rfl
theorem mvU_n {mv : Nat → Nat} {d q i : Nat} (h : i ≠ d) : mvU mv d q i = mv i := if_neg h
-- one level of the reference's search: the moves of one more party
def LV (M M1 : Mem) (t : Nat → Int) (d f0 q : Nat) (mv : Nat → Nat) (Fd : Nat → Mem → Prop) (NF : Nat → Prop) (r : Option (Int32 × Mem)) (go : Mem → Option (Int32 × Mem)) : Prop :=
    (∃ M2 k, r = some (1, M2) ∧ FI M1 M2 rsC ∧ 6 * f0 ≤ k ∧ mvO M (iI M 342) (k / 6) (k % 6) ∧ Fd k M2 ∧ ∀ k', 6 * f0 ≤ k' → k' < k → mvO M (iI M 342) (k' / 6) (k' % 6) → NF k') ∨
    (∃ M2, r = go M2 ∧ FI M1 M2 rsC ∧ RSt M M2 t d mv ∧ ∀ k, 6 * f0 ≤ k → k < 6 * q → mvO M (iI M 342) (k / 6) (k % 6) → NF k)
theorem X8_level43 {fl : Nat} {M : Mem} {t : Nat → Int} {d f0 : Nat} {mv : Nat → Nat} {mo : Int32} {self : Nat → Int32 → Int32 → Mem → Option (Int32 × Mem)} {Fd : Nat → Mem → Prop} {NF : Nat → Prop} (hM : MB M) (hd : d ≤ 1)
    (hself : ∀ (k : Nat) (M1 : Mem), f0 ≤ k / 6 → k / 6 < 12 → mvO M (iI M 342) (k / 6) (k % 6) → RSt M M1 (up t (k / 6) (k % 6 : Nat)) (d + 1) (mvU mv d (k / 6)) → ∃ M2 b, self 340 (oI ((k / 6 + 1 : Nat) : Int)) (mo - 1) M1 = some (b, M2) ∧ FI M1 M2 rsC ∧ (b = 1 ∧ Fd k M2 ∨ b = 0 ∧ NF k ∧ RSt M M2 (up t (k / 6) (k % 6 : Nat)) (d + 1) (mvU mv d (k / 6))))
    {q : Nat} (hq : (q : Int) < iI M 341 1) (h0 : f0 ≤ q) (htq : t q = iI M 342 q) (h00 : 0 ≤ iI M 342 q) (hft : iI M 341 3 ≤ iI M 341 (50 + 10 * q + 4)) {k11 : Nat → Int32 → Int32 → Mem → Option (Int32 × Mem)} : ∀ (m p : Nat) (M1 : Mem) (x : Int) (f : Nat), (p : Int) + m = iI M 341 0 → m < f → RSt M M1 (up t q x) d mv → (∀ k, 6 * f0 ≤ k → k < 6 * q + p → mvO M (iI M 342) (k / 6) (k % 6) → NF k) →
    LV M M1 t d f0 (q + 1) mv Fd NF (B_X8_plans_43 self k11 fl f 340 mo (oI q) (oI (iI M 342 q)) (oI p) M1) (k11 340 mo (oI ((q + 1 : Nat) : Int))) := by
  obtain ⟨hv, hF, hn1, hpl⟩ := hM
  have bn := VRn hv
  unfold VN at bn
  have bq := hpl q (by omega)
  have eq1 : oI (q : Int) + 1 = oI ((q + 1 : Nat) : Int) := by rw [oI_lit, oI_add]; rfl
  have tq : (oI (q : Int)).toNatClampNeg = q := by rw [oI_nat (by omega) (by omega)]; rfl
  intro m
  induction m with
  | zero =>
    intro p M1 x f h hf hR hno
    obtain ⟨f, rfl⟩ : ∃ f', f = f' + 1 := ⟨f - 1, by omega⟩
    obtain ⟨r1, r2, r3, r4, r5, r6⟩ := hR
    have F : FI M1 (pI M1 342 q (oI (iI M 342 q))) (fun k j => k = 342 ∧ j = q) := FI_p M1 342 q _ ⟨rfl, rfl⟩
    have y : iI (pI M1 342 q (oI (iI M 342 q))) 342 q = iI M 342 q := iI_pe (by omega) (by omega)
    refine Or.inr ⟨pI M1 342 q (oI (iI M 342 q)), ?_, FI_mono F (by unfold rsC; omega), ⟨FI_RO F r1, AG_trans r2 (AG_FI F (by omega)), fun z hz => ?_, ?_, ?_, fun i hi => ?_⟩, fun k hk hk2 hm => ?_⟩
    · unfold B_X8_plans_43 B_X8_plans_164
      rw [ld_340_1 r1, bd_some, gd_t (by decide)]
      dsimp only
      rw [show gI M1 341 (0 : Int32).toNatClampNeg = oI (iI M 341 0) from by rw [gI_oI]; exact congrArg oI (r2.1 0), if_pos (by rw [oI_le (by omega) (by omega) (by omega) (by omega)]; omega), ld_340_4 r1, bd_some, gd_t ((oI_inR (by omega) (by omega)).mpr (by omega)), nx_eq, tq, eq1]
    · by_cases hz2 : z = q
      · subst hz2; rw [y, htq]
      · rw [F.2 _ _ (by omega), r3 z hz, up_n hz2]
    · rw [F.2 _ _ (by omega), r4]
    · rw [F.2 _ _ (by omega), r5]
    · rw [F.2 _ _ (by omega), r6 i hi]
    · by_cases hlt : k < 6 * q + p
      · exact hno k hk hlt hm
      · have := hm.2.1
        omega
  | succ m ih =>
    intro p M1 x f h hf hR hno
    obtain ⟨f, rfl⟩ : ∃ f', f = f' + 1 := ⟨f - 1, by omega⟩
    have hR' := hR
    obtain ⟨r1, r2, r3, r4, r5, r6⟩ := hR'
    have ep : oI (p : Int) + 1 = oI ((p + 1 : Nat) : Int) := by rw [oI_lit, oI_add]; rfl
    have k6 : (6 * q + p) / 6 = q := by omega
    have k7 : (6 * q + p) % 6 = p := by omega
    have lo := fun j => iI_lo M1 341 j
    have hi := fun j => iI_hi M1 341 j
    -- to the next pitch
    have next : ∀ (M2 : Mem) (x' : Int), FI M1 M2 rsC → RSt M M2 (up t q x') d mv → (mvO M (iI M 342) q p → NF (6 * q + p)) → B_X8_plans_43 self k11 fl (f + 1) 340 mo (oI q) (oI (iI M 342 q)) (oI p) M1 = B_X8_plans_43 self k11 fl f 340 mo (oI q) (oI (iI M 342 q)) (oI ((p + 1 : Nat) : Int)) M2 → LV M M1 t d f0 (q + 1) mv Fd NF (B_X8_plans_43 self k11 fl (f + 1) 340 mo (oI q) (oI (iI M 342 q)) (oI p) M1) (k11 340 mo (oI ((q + 1 : Nat) : Int))) := fun M2 x' F R hN e => by
      have := ih (p + 1) M2 x' f (by omega) (by omega) R (fun k hk hk2 hm => by
        by_cases hkk : k = 6 * q + p
        · subst hkk
          rw [k6, k7] at hm
          exact hN hm
        · exact hno k hk (by omega) hm)
      rw [← e] at this
      rcases this with ⟨M3, k, a1, a2, a3⟩ | ⟨M3, a1, a2, a3⟩
      · exact Or.inl ⟨M3, k, a1, FI_trans F a2, a3⟩
      · exact Or.inr ⟨M3, a1, FI_trans F a2, a3⟩
    have head : ∀ (A B C : Option (Int32 × Mem)), (bd (ldA M1 340 1 0) fun r1 => gd (inR (0 : Int32) r1.2) <| if (gI M1 r1.1 (0 : Int32).toNatClampNeg) ≤ oI (p : Int) then A else if oI (p : Int) = oI (iI M 342 q) then B else C) = if (p : Int) = iI M 342 q then B else C := by
      intro A B C
      rw [ld_340_1 r1, bd_some, gd_t (by decide)]
      dsimp only
      rw [show gI M1 341 (0 : Int32).toNatClampNeg = oI (iI M 341 0) from by rw [gI_oI]; exact congrArg oI (r2.1 0), if_neg (by rw [oI_le (by omega) (by omega) (by omega) (by omega)]; omega)]
      by_cases hh : (p : Int) = iI M 342 q
      · rw [if_pos hh, if_pos (congrArg oI hh)]
      · rw [if_neg hh, if_neg (fun z => hh ((oI_eq (by omega) (by omega) (by omega) (by omega)).mp z))]
    by_cases hhere : (p : Int) = iI M 342 q
    · refine next M1 x (FI_refl _ _) hR (fun hm => absurd (hm.2.2.2.2.1) (fun z => z hhere)) ?_
      conv => lhs; unfold B_X8_plans_43 B_X8_plans_150
      rw [head, if_pos hhere, ep]
    · have o0 := X8_of (fl := fl) (q := q) (f := 0) r1 (by omega) (by decide)
      have o1 := X8_of (fl := fl) (q := q) (f := 1) r1 (by omega) (by decide)
      have o2 := X8_of (fl := fl) (q := q) (f := 2) r1 (by omega) (by decide)
      have o3 := X8_of (fl := fl) (q := q) (f := 3) r1 (by omega) (by decide)
      have fi := X8_fits (fl := fl) r1 (p := p) (by omega) (lo (50 + 10 * q + 0)) (hi (50 + 10 * q + 0)) (lo (50 + 10 * q + 1)) (hi (50 + 10 * q + 1)) (lo (50 + 10 * q + 2)) (hi (50 + 10 * q + 2)) (lo (50 + 10 * q + 3)) (hi (50 + 10 * q + 3))
      have eft : ftP M1 (iI M1 341 (50 + 10 * q + 0)) (iI M1 341 (50 + 10 * q + 1)) (iI M1 341 (50 + 10 * q + 2)) (iI M1 341 (50 + 10 * q + 3)) p ↔ mvO M (iI M 342) q p := by
        unfold ftP mvO ftP
        simp only [r2.1]
        constructor
        · intro z; exact ⟨hq, by omega, h00, hft, hhere, z⟩
        · intro z; exact z.2.2.2.2.2
      by_cases hm : mvO M (iI M 342) q p
      · obtain ⟨M2, e2⟩ : ∃ M2, pI M1 342 q (oI (p : Int)) = M2 := ⟨_, rfl⟩
        have F2 : FI M1 M2 (fun k j => k = 342 ∧ j = q) := by rw [← e2]; exact FI_p M1 342 q _ ⟨rfl, rfl⟩
        have y2 : iI M2 342 q = p := by rw [← e2]; exact iI_pe (by omega) (by omega)
        have r12 := FI_RO F2 r1
        obtain ⟨M3, e3⟩ : ∃ M3, pI M2 346 d (oI (q : Int)) = M3 := ⟨_, rfl⟩
        have F3 : FI M2 M3 (fun k j => k = 346 ∧ j = d) := by rw [← e3]; exact FI_p M2 346 d _ ⟨rfl, rfl⟩
        have y3 : iI M3 346 d = q := by rw [← e3]; exact iI_pe (by omega) (by omega)
        obtain ⟨M4, e4⟩ : ∃ M4, pI M3 340 11 (oI ((d + 1 : Nat) : Int)) = M4 := ⟨_, rfl⟩
        have F4 : FI M3 M4 (fun k j => k = 340 ∧ j = 11) := by rw [← e4]; exact FI_p M3 340 11 _ ⟨rfl, rfl⟩
        have y4 : iI M4 340 11 = (d + 1 : Nat) := by rw [← e4]; exact iI_pe (by omega) (by omega)
        have R4 : RSt M M4 (up t q p) (d + 1) (mvU mv d q) := by
          refine ⟨FI_RO F4 (FI_RO F3 r12), AG_trans r2 (AG_trans (AG_FI F2 (by omega)) (AG_trans (AG_FI F3 (by omega)) (AG_FI F4 (by omega)))), fun z hz => ?_, ?_, y4, fun i hi => ?_⟩
          · rw [F4.2 _ _ (by omega), F3.2 _ _ (by omega)]
            by_cases hz2 : z = q
            · subst hz2; rw [y2, up_e]
            · rw [F2.2 _ _ (by omega), r3 z hz, up_n hz2, up_n hz2]
          · rw [F4.2 _ _ (by omega), F3.2 _ _ (by omega), F2.2 _ _ (by omega), r4]
          · rw [F4.2 _ _ (by omega)]
            by_cases hid : i = d
            · subst hid; rw [y3, mvU_e]
            · rw [F3.2 _ _ (by omega), F2.2 _ _ (by omega), r6 i (by omega), mvU_n hid]
        have hs := hself (6 * q + p) M4 (by omega) (by omega) (by rw [k6, k7]; exact hm) (by rw [k6, k7]; exact R4)
        obtain ⟨M5, b, s1, s2, s3⟩ := hs
        rw [k6] at s1
        have F5 : FI M1 M5 rsC := FI_trans (FI_mono F2 (by unfold rsC; omega)) (FI_trans (FI_mono F3 (by unfold rsC; omega)) (FI_trans (FI_mono F4 (by unfold rsC; omega)) s2))
        have step : B_X8_plans_43 self k11 fl (f + 1) 340 mo (oI q) (oI (iI M 342 q)) (oI p) M1 = (if b = 0 then B_X8_plans_43 self k11 fl f 340 mo (oI q) (oI (iI M 342 q)) (oI ((p + 1 : Nat) : Int)) (pI M5 340 11 ((gI M5 340 11) - 1)) else some ((1 : Int32), M5)) := by
          conv => lhs; unfold B_X8_plans_43 B_X8_plans_150
          rw [head, if_neg hhere, show F_X8_of fl 340 (oI q) 0 M1 = _ from o0, bd_some, show F_X8_of fl 340 (oI q) 1 M1 = _ from o1, bd_some, show F_X8_of fl 340 (oI q) 2 M1 = _ from o2, bd_some, show F_X8_of fl 340 (oI q) 3 M1 = _ from o3, bd_some, fi, bd_some, ifB_t (eft.mpr hm), ld_340_4 r1, bd_some, gd_t ((oI_inR (by omega) (by omega)).mpr (by omega)), nx_eq, tq]
          dsimp only
          rw [e2, ld_340_12 r12, bd_some, show gI M2 340 11 = oI (d : Int) from by rw [gI_oI, F2.2 _ _ (by omega), r5], gd_t ((oI_inR (by omega) (by omega)).mpr (by omega)), nx_eq]
          dsimp only
          rw [show (oI (d : Int)).toNatClampNeg = d from by rw [oI_nat (by omega) (by omega)]; rfl, e3, nx_eq, show gI M3 340 11 + 1 = oI ((d + 1 : Nat) : Int) from by rw [gI_oI, F3.2 _ _ (by omega), F2.2 _ _ (by omega), r5, oI_lit, oI_add]; rfl, e4, eq1, s1, bd_some]
          dsimp only
          rw [nx_eq, ep]
        rcases s3 with ⟨rfl, s4⟩ | ⟨rfl, s4, s5⟩
        · rw [if_neg (by decide)] at step
          refine Or.inl ⟨M5, 6 * q + p, step, F5, by omega, by rw [k6, k7]; exact hm, s4, fun k' h1 h2 h3 => hno k' h1 h2 h3⟩
        · rw [if_pos rfl] at step
          rw [k6, k7] at s5
          obtain ⟨q1, q2, q3, q4, q5, q6⟩ := s5
          rw [show gI M5 340 11 - 1 = oI (d : Int) from by rw [gI_oI, q5, oI_lit, oI_sub]; congr 1; omega] at step
          have F6 : FI M5 (pI M5 340 11 (oI (d : Int))) (fun k j => k = 340 ∧ j = 11) := FI_p M5 340 11 _ ⟨rfl, rfl⟩
          refine next _ p (FI_trans F5 (FI_mono F6 (by unfold rsC; omega))) ⟨FI_RO F6 q1, AG_trans q2 (AG_FI F6 (by omega)), fun z hz => by rw [F6.2 _ _ (by omega)]; exact q3 z hz, by rw [F6.2 _ _ (by omega)]; exact q4, iI_pe (by omega) (by omega), fun i hi => ?_⟩ (fun _ => s4) step
          rw [F6.2 _ _ (by omega), q6 i (by omega), mvU_n (by omega)]
      · refine next M1 x (FI_refl _ _) hR (fun z => absurd z hm) ?_
        conv => lhs; unfold B_X8_plans_43 B_X8_plans_150
        rw [head, if_neg hhere, show F_X8_of fl 340 (oI q) 0 M1 = _ from o0, bd_some, show F_X8_of fl 340 (oI q) 1 M1 = _ from o1, bd_some, show F_X8_of fl 340 (oI q) 2 M1 = _ from o2, bd_some, show F_X8_of fl 340 (oI q) 3 M1 = _ from o3, bd_some, fi, bd_some, ifB_f (fun z => hm (eft.mp z)), ep]
