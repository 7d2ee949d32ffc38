theorem X8_fit43 {fl : Nat} {M : Mem} (hM : MB M) {A : Nat → Int} {m n : Nat} (hmn : m ≤ n) (hn : (n : Int) < iI M 341 0) (hA : ∀ j, j < m → ∃ p : Nat, A j = p ∧ p < n) {a1 a2 a3 : Int32} {k6 : Nat → Int32 → Int32 → Int32 → Int32 → Int32 → Mem → Option (Int32 × Mem)} : ∀ (v : Nat) (M1 : Mem) (f : Nat), v ≤ m → v < f → RO M1 → AG M M1 → (∀ j, j < v → iI M1 347 j = A j) → (∀ j, v ≤ j → j < m → iI M1 347 (j + 1) = A j) → (∀ j (a : Nat), v ≤ j → j < m → A j = a → arM M n < arM M a) →
    ∃ M2, B_X8_fitting_43 k6 fl f 340 a1 a2 a3 (oI m) (oI n) (oI v) M1 = k6 340 a1 a2 a3 (oI ((m + 1 : Nat) : Int)) (oI ((n + 1 : Nat) : Int)) M2 ∧ FI M1 M2 (fun k j => k = 347) ∧ IN (arM M) A (iI M2 347) m n := by
  have bn := VRn hM.1
  unfold VN at bn
  have en : oI (n : Int) + 1 = oI ((n + 1 : Nat) : Int) := by rw [oI_lit, oI_add]; rfl
  have em : oI (m : Int) + 1 = oI ((m + 1 : Nat) : Int) := by rw [oI_lit, oI_add]; rfl
  intro v
  induction v with
  | zero =>
    intro M1 f hv hf r1 r2 h1 h2 h3
    obtain ⟨f, rfl⟩ : ∃ f', f = f' + 1 := ⟨f - 1, by omega⟩
    obtain ⟨M2, e2⟩ : ∃ M2, pI M1 347 0 (oI (n : Int)) = M2 := ⟨_, rfl⟩
    have F2 : FI M1 M2 (fun k j => k = 347 ∧ j = 0) := by rw [← e2]; exact FI_p M1 347 0 _ ⟨rfl, rfl⟩
    have y2 : iI M2 347 0 = n := by rw [← e2]; exact iI_pe (by omega) (by omega)
    refine ⟨M2, ?_, FI_mono F2 (by omega), 0, by omega, fun j hj => by omega, y2, fun j _ hj => ?_, fun a h => by omega, fun j a _ hj e => h3 j a (by omega) hj e⟩
    · unfold B_X8_fitting_43 B_X8_fitting_117 B_X8_fitting_129
      rw [if_pos (by decide), ld_340_13 r1, bd_some, gd_t (by decide), nx_eq]
      dsimp only
      rw [show (oI ((0 : Nat) : Int)).toNatClampNeg = 0 from by decide, e2, en, em]
    · rw [F2.2 _ _ (by omega)]
      exact h2 j (by omega) hj
  | succ v ih =>
    intro M1 f hv hf r1 r2 h1 h2 h3
    obtain ⟨f, rfl⟩ : ∃ f', f = f' + 1 := ⟨f - 1, by omega⟩
    obtain ⟨p, p1, p2⟩ := hA v (by omega)
    have ep := h1 v (by omega)
    have b1 := arM_bd hM.1 (p := p) (by omega)
    have b2 := arM_bd hM.1 hn
    have ev : oI ((v + 1 : Nat) : Int) - 1 = oI (v : Int) := by rw [oI_lit, oI_sub]; congr 1; omega
    have tv : (oI (v : Int)).toNatClampNeg = v := by rw [oI_nat (by omega) (by omega)]; rfl
    have tv1 : (oI ((v + 1 : Nat) : Int)).toNatClampNeg = v + 1 := by rw [oI_nat (by omega) (by omega)]; rfl
    have o1 := X8_ofPitch (fl := fl) (p := p) (f := 1) r1 (by omega) (by decide)
    have o2 := X8_ofPitch (fl := fl) (p := p) (f := 2) r1 (by omega) (by decide)
    have o3 := X8_ofPitch (fl := fl) (p := n) (f := 1) r1 (by omega) (by decide)
    have o4 := X8_ofPitch (fl := fl) (p := n) (f := 2) r1 (by omega) (by decide)
    have i6 : inR (oI (v : Int)) 6 := (oI_inR (by omega) (by omega)).mpr (by omega)
    have head : ∀ (r : Option (Int32 × Mem)) (g : Option (Int32 × Mem)), (if oI ((v + 1 : Nat) : Int) ≤ 0 then r else bd (ldA M1 340 13 0) fun r7 => gd (inR (oI ((v + 1 : Nat) : Int) - (1 : Int32)) r7.2) <| bd (F_X8_ofPitch fl 340 (gI M1 r7.1 (oI ((v + 1 : Nat) : Int) - (1 : Int32)).toNatClampNeg) (1 : Int32) M1) fun q10 => bd (ldA M1 340 13 0) fun r12 => gd (inR (oI ((v + 1 : Nat) : Int) - (1 : Int32)) r12.2) <| bd (F_X8_ofPitch fl 340 (gI M1 r12.1 (oI ((v + 1 : Nat) : Int) - (1 : Int32)).toNatClampNeg) (2 : Int32) M1) fun q15 => bd (F_X8_ofPitch fl 340 (oI n) (1 : Int32) M1) fun q17 => bd (F_X8_ofPitch fl 340 (oI n) (2 : Int32) M1) fun q19 => if (q10 * q15) ≤ (q17 * q19) then r else g) = (if arM M p ≤ arM M n then r else g) := by
      intro r g
      rw [if_neg (by rw [show (0 : Int32) = oI 0 from rfl, oI_le (by omega) (by omega) (by omega) (by omega)]; omega), ld_340_13 r1, bd_some, ev, gd_t i6]
      dsimp only
      have ge : gI M1 347 (oI (v : Int)).toNatClampNeg = oI (p : Int) := by rw [tv, gI_oI, ep, p1]
      rw [ge, show F_X8_ofPitch fl 340 (oI p) 1 M1 = _ from o1, bd_some, bd_some, gd_t i6]
      dsimp only
      rw [ge, show F_X8_ofPitch fl 340 (oI p) 2 M1 = _ from o2, bd_some, show F_X8_ofPitch fl 340 (oI n) 1 M1 = _ from o3, bd_some, show F_X8_ofPitch fl 340 (oI n) 2 M1 = _ from o4, bd_some, oI_mul, oI_mul, r2.1, r2.1, r2.1, r2.1]
      show (if oI (arM M p) ≤ oI (arM M n) then r else g) = _
      by_cases hle : arM M p ≤ arM M n
      · rw [if_pos hle, if_pos (by rw [oI_le (by omega) (by omega) (by omega) (by omega)]; exact hle)]
      · rw [if_neg hle, if_neg (by rw [oI_le (by omega) (by omega) (by omega) (by omega)]; exact hle)]
    by_cases hle : arM M p ≤ arM M n
    · obtain ⟨M2, e2⟩ : ∃ M2, pI M1 347 (v + 1) (oI (n : Int)) = M2 := ⟨_, rfl⟩
      have F2 : FI M1 M2 (fun k j => k = 347 ∧ j = v + 1) := by rw [← e2]; exact FI_p M1 347 (v + 1) _ ⟨rfl, rfl⟩
      have y2 : iI M2 347 (v + 1) = n := by rw [← e2]; exact iI_pe (by omega) (by omega)
      refine ⟨M2, ?_, FI_mono F2 (by omega), v + 1, hv, fun j hj => ?_, y2, fun j hj hj2 => ?_, fun a _ e => ?_, h3⟩
      · unfold B_X8_fitting_43
        rw [head, if_pos hle]
        unfold B_X8_fitting_117 B_X8_fitting_129
        rw [ld_340_13 r1, bd_some, gd_t ((oI_inR (by omega) (by omega)).mpr (by omega)), nx_eq]
        dsimp only
        rw [tv1, e2, en, em]
      · rw [F2.2 _ _ (by omega)]; exact h1 j hj
      · rw [F2.2 _ _ (by omega)]; exact h2 j hj hj2
      · have : a = p := by
          rw [show v + 1 - 1 = v by omega] at e
          omega
        subst this
        exact hle
    · obtain ⟨M2, e2⟩ : ∃ M2, pI M1 347 (v + 1) (oI (p : Int)) = M2 := ⟨_, rfl⟩
      have F2 : FI M1 M2 (fun k j => k = 347 ∧ j = v + 1) := by rw [← e2]; exact FI_p M1 347 (v + 1) _ ⟨rfl, rfl⟩
      have y2 : iI M2 347 (v + 1) = p := by rw [← e2]; exact iI_pe (by omega) (by omega)
      obtain ⟨M3, g1, g2, g3⟩ := ih M2 f (by omega) (by omega) (FI_RO F2 r1) (AG_trans r2 (AG_FI F2 (by omega))) (fun j hj => by rw [F2.2 _ _ (by omega)]; exact h1 j (by omega)) (fun j hj hj2 => by
        by_cases e : j = v
        · subst e; rw [y2, p1]
        · rw [F2.2 _ _ (by omega)]; exact h2 j (by omega) hj2) (fun j a hj hj2 e => by
        by_cases e' : j = v
        · subst e'
          have : a = p := by omega
          subst this
          omega
        · exact h3 j a (by omega) hj2 e)
      refine ⟨M3, ?_, FI_trans (FI_mono F2 (by omega)) g2, g3⟩
      unfold B_X8_fitting_43
      rw [head, if_neg hle, ld_340_13 r1, bd_some, bd_some, ev, gd_t i6, gd_t ((oI_inR (by omega) (by omega)).mpr (by omega)), nx_eq]
      dsimp only
      rw [tv, tv1, show gI M1 347 v = oI (p : Int) from by rw [gI_oI, ep, p1], e2, show oI ((v + 1 : Nat) : Int) + -1 = oI (v : Int) from by rw [m1_o, oI_add]; congr 1; omega]
      exact g1
theorem X8_fit6 {fl : Nat} (hfl : 1000 ≤ fl) {M : Mem} (hM : MB M) {kd ln br : Int} (b1 : -2147483648 ≤ kd) (b2 : kd < 2147483648) (b3 : -2147483648 ≤ ln) (b4 : ln < 2147483648) (b5 : -2147483648 ≤ br) (b6 : br < 2147483648) : ∀ (m i c : Nat) (M1 : Mem) (f : Nat), iI M 341 0 = ((i + m : Nat) : Int) → m < f → c ≤ i → RO M1 → AG M M1 → SO (arM M) (ftM M kd ln br) (iI M1 347) c i →
    ∃ M2 c', B_X8_fitting_6 fl f 340 (oI kd) (oI ln) (oI br) (oI (c : Int)) (oI i) M1 = some (oI ((c' : Nat) : Int), M2) ∧ FI M1 M2 (fun k j => k = 347) ∧ c' ≤ i + m ∧ SO (arM M) (ftM M kd ln br) (iI M2 347) c' (i + m) := by
  have bn := VRn hM.1
  unfold VN at bn
  intro m
  induction m with
  | zero =>
    intro i c M1 f h hf hc r1 r2 hA
    obtain ⟨f, rfl⟩ : ∃ f', f = f' + 1 := ⟨f - 1, by omega⟩
    refine ⟨M1, c, ?_, FI_refl _ _, hc, hA⟩
    unfold B_X8_fitting_6
    rw [ld_340_1 r1, bd_some, gd_t (by decide)]
    dsimp only
    rw [show gI M1 341 (0 : Int32).toNatClampNeg = oI (iI M 341 0) from by rw [gI_oI]; exact congrArg oI (r2.1 0), if_pos (by rw [oI_le (by omega) (by omega) (by omega) (by omega)]; omega)]
  | succ m ih =>
    intro i c M1 f h hf hc r1 r2 hA
    obtain ⟨f, rfl⟩ : ∃ f', f = f' + 1 := ⟨f - 1, by omega⟩
    have lo := iI_lo M1 345 12
    have hi := iI_hi M1 345 12
    have fi := X8_fits (fl := fl) r1 (p := i) (by omega) b1 b2 b3 b4 b5 b6 lo hi
    have eft : ftP M1 kd ln br (iI M1 345 12) i ↔ ftM M kd ln br i := by
      unfold ftM ftP
      simp only [r2.1, (r2.2 12 (by omega)).2.2]
    have ei : oI (i : Int) + 1 = oI ((i + 1 : Nat) : Int) := by rw [oI_lit, oI_add]; rfl
    have step : B_X8_fitting_6 fl (f + 1) 340 (oI kd) (oI ln) (oI br) (oI (c : Int)) (oI i) M1 = (if oB (ftP M1 kd ln br (iI M1 345 12) i) = 0 then B_X8_fitting_6 fl f 340 (oI kd) (oI ln) (oI br) (oI (c : Int)) (oI ((i + 1 : Nat) : Int)) M1 else B_X8_fitting_43 (B_X8_fitting_6 fl f) fl fl 340 (oI kd) (oI ln) (oI br) (oI (c : Int)) (oI i) (oI (c : Int)) M1) := by
      conv => lhs; unfold B_X8_fitting_6 B_X8_fitting_129
      rw [ld_340_1 r1, bd_some, gd_t (by decide)]
      dsimp only
      rw [show gI M1 341 (0 : Int32).toNatClampNeg = oI (iI M 341 0) from by rw [gI_oI]; exact congrArg oI (r2.1 0), if_neg (by rw [oI_le (by omega) (by omega) (by omega) (by omega)]; omega), ld_340_7 r1, bd_some, gd_t (by decide)]
      dsimp only
      rw [show gI M1 345 (12 : Int32).toNatClampNeg = oI (iI M1 345 12) from by rw [gI_oI]; rfl, fi, bd_some, ei]
    by_cases hft : ftM M kd ln br i
    · rw [ifB_t (eft.mpr hft)] at step
      obtain ⟨M2, g1, g2, g3⟩ := X8_fit43 (fl := fl) hM (A := iI M1 347) hc (n := i) (by omega) (fun j hj => by
        obtain ⟨p, a, b, -⟩ := hA.1 j hj
        exact ⟨p, a, b⟩) (a1 := oI kd) (a2 := oI ln) (a3 := oI br) (k6 := B_X8_fitting_6 fl f) c M1 fl (Nat.le_refl _) (by omega) r1 r2 (fun _ _ => rfl) (fun j h1 h2 => by omega) (fun j a h1 h2 => by omega)
      obtain ⟨M3, c', x1, x2, x3, x4⟩ := ih (i + 1) (c + 1) M2 f (by rw [h]; congr 1; omega) (by omega) (by omega) (FI_RO g2 r1) (AG_trans r2 (AG_FI g2 (by omega))) (SO_in hA hft g3)
      exact ⟨M3, c', (step.trans g1).trans x1, FI_trans g2 x2, by omega, by rw [show i + (m + 1) = i + 1 + m by omega]; exact x4⟩
    · rw [ifB_f (fun z => hft (eft.mp z))] at step
      obtain ⟨M3, c', x1, x2, x3, x4⟩ := ih (i + 1) c M1 f (by rw [h]; congr 1; omega) (by omega) (by omega) r1 r2 (SO_skip hA hft)
      exact ⟨M3, c', step.trans x1, x2, by omega, by rw [show i + (m + 1) = i + 1 + m by omega]; exact x4⟩
