-- the best plan: fewest moves, smallest pitch, first codes
def Bst (M : Mem) (ft : Nat → Prop) (c g k1 k2 : Nat) : Prop := c ≤ 2 ∧ (g : Int) < iI M 341 0 ∧ ft g ∧ okL M c g k1 k2 ∧ ∀ c' g' a b : Nat, c' ≤ 2 → (g' : Int) < iI M 341 0 → ft g' → okL M c' g' a b → c < c' ∨ c = c' ∧ (arM M g < arM M g' ∨ arM M g = arM M g' ∧ (g < g' ∨ g = g' ∧ (k1 < a ∨ k1 = a ∧ k2 ≤ b)))
theorem Bst_u {M : Mem} {ft : Nat → Prop} {c g k1 k2 c' g' a b : Nat} (h : Bst M ft c g k1 k2) (h' : Bst M ft c' g' a b) : c = c' ∧ g = g' ∧ k1 = a ∧ k2 = b := by
  obtain ⟨h1, h2, h3, h4, h5⟩ := h
  obtain ⟨j1, j2, j3, j4, j5⟩ := h'
  have x := h5 c' g' a b j1 j2 j3 j4
  have y := j5 c g k1 k2 h1 h2 h3 h4
  omega
def bpC (k j : Nat) : Prop := (324 ≤ k ∧ k ≤ 329 ∧ 1 ≤ j) ∨ k = 331 ∨ ((k = 326 ∨ k = 328 ∨ k = 329) ∧ j = 0)
theorem BL_FG {S S' M : Mem} {C : Nat → Nat → Prop} (F : FG S S' C) (hC : ∀ k j, C k j → k ≠ 330 ∧ k ≠ 332 ∧ k ≠ 341) (h : BL S M) : BL S' M := by
  refine ⟨fun x hx => ?_, fun c n hc hn => ?_⟩
  · rw [FG_L F (fun z => (hC _ _ z).1 rfl)]
    rw [FG_I F (fun z => (hC _ _ z).2.2 rfl)] at hx
    exact h.1 x hx
  · rw [FG_I F (fun z => (hC _ _ z).2.1 rfl)]; exact h.2 c n hc hn
-- the ground of the search: sorted pitches
def BG (S M : Mem) (kd ln br : Int) (n : Nat) : Prop := PB S M ∧ BL S M ∧ iI S 322 0 = kd ∧ iI S 322 1 = ln ∧ iI S 322 2 = br ∧ iI S 341 0 = n ∧ SO (arM M) (fun _ => True) (iI S 333) n n
theorem BG_FG {S S' M : Mem} {kd ln br : Int} {n : Nat} {C : Nat → Nat → Prop} (F : FG S S' C) (hC : ∀ k j, C k j → bpC k j ∨ k = 321 ∧ j = 2) (h : BG S M kd ln br n) : BG S' M kd ln br n := by
  obtain ⟨h1, h2, h3, h4, h5, h6, h7⟩ := h
  have F' : FG S S' (fun k j => bpC k j ∨ k = 321 ∧ j = 2) := FG_mono F hC
  refine ⟨PB_FG F' (by unfold bpC plC; omega) h1, BL_FG F' (by unfold bpC; omega) h2, ?_, ?_, ?_, ?_, ?_⟩
  · rw [FG_I F' (by unfold bpC; omega)]; exact h3
  · rw [FG_I F' (by unfold bpC; omega)]; exact h4
  · rw [FG_I F' (by unfold bpC; omega)]; exact h5
  · rw [FG_I F' (by unfold bpC; omega)]; exact h6
  · rw [show iI S' 333 = iI S 333 from funext fun j => FG_I F' (by unfold bpC; omega)]; exact h7
abbrev ftM (M : Mem) (kd ln br : Int) (g : Nat) : Prop := ftP M kd ln br (iI M 345 12) g
theorem X5_best22 {fl : Nat} (hfl : 1000 ≤ fl) {M : Mem} {kd ln br : Int} {c n : Nat} (hc2 : c ≤ 2) {k10 : Nat → Int32 → Mem → Option (Int32 × Mem)} : ∀ (m j : Nat) (S : Mem) (f : Nat), BG S M kd ln br n → iI S 321 2 = c → j + m = n → m < f → (∀ i, i < j → ∀ g a b : Nat, iI S 333 i = g → ftM M kd ln br g → ¬ okL M c g a b) →
    (∃ S' g k1 k2, B_X5_findBestPlan_22 k10 fl f 321 (oI c) (oI j) S = some (1, S') ∧ FG S S' bpC ∧ g < n ∧ ftM M kd ln br g ∧ okL M c g k1 k2 ∧ (∀ g' a b : Nat, g' < n → ftM M kd ln br g' → okL M c g' a b → arM M g < arM M g' ∨ arM M g = arM M g' ∧ (g < g' ∨ g = g' ∧ (k1 < a ∨ k1 = a ∧ k2 ≤ b))) ∧ SL S' M (W2 k1 k2) (D2 g k1 k2) c ∧ ∀ i, 1 ≤ i → i ≤ c → iI S' 324 i = W2 k1 k2 i) ∨
    (∃ S', B_X5_findBestPlan_22 k10 fl f 321 (oI c) (oI j) S = k10 321 (oI c + 1) S' ∧ FG S S' bpC ∧ ∀ g a b : Nat, g < n → ftM M kd ln br g → ¬ okL M c g a b) := by
  intro m
  induction m with
  | zero =>
    intro j S f hG h2 h hf hno
    obtain ⟨f, rfl⟩ : ∃ f', f = f' + 1 := ⟨f - 1, by omega⟩
    have bn := VRn hG.1.2.2.1
    unfold VN at bn
    have h0 := hG.2.2.2.2.2.1
    refine Or.inr ⟨S, ?_, FG_refl _ _, fun g a b hg ht ho => ?_⟩
    · unfold B_X5_findBestPlan_22
      rw [ld_321_0 hG.1.1, bd_some, show gI S 0 1 = oI (n : Int) from by rw [gI_oI, c_pc hG.1.2.2.2.1, h0], if_pos (by rw [oI_le (by omega) (by omega) (by omega) (by omega)]; omega)]
    · obtain ⟨i, i1, i2⟩ := hG.2.2.2.2.2.2.2.1 g hg trivial
      exact hno i (by omega) g a b i2 ht ho
  | succ m ih =>
    intro j S f hG h2 h hf hno
    obtain ⟨f, rfl⟩ : ∃ f', f = f' + 1 := ⟨f - 1, by omega⟩
    have bn := VRn hG.1.2.2.1
    unfold VN at bn
    obtain ⟨hB, hbl, e0, e1, e2, h0, hSO⟩ := hG
    have hG : BG S M kd ln br n := ⟨hB, hbl, e0, e1, e2, h0, hSO⟩
    obtain ⟨g, g1, g2, -⟩ := hSO.1 j (by omega)
    have bp := VRp hB.2.2.1 (p := g) (by omega)
    obtain ⟨S1, x1, x2, x3, x4, x5⟩ := X5_chooseGoal (fl := fl) hfl hB (g := g) (mc := c) (by omega) (by omega) (by omega) h2
    have eft : ftP S (iI S 322 0) (iI S 322 1) (iI S 322 2) (iI S 322 3) g ↔ ftM M kd ln br g := by
      rw [e0, e1, e2, ← hB.2.2.2.2.2.2.2.2.1]
      unfold ftM ftP
      rw [hB.2.2.2.2.1.1, hB.2.2.2.2.1.1, hB.2.2.2.2.1.1, hB.2.2.2.2.1.1]
    have step : B_X5_findBestPlan_22 k10 fl (f + 1) 321 (oI c) (oI j) S = (if oB (sm (bkH M g) (iI S 341 1).toNat 0 ≤ c ∧ ftP S (iI S 322 0) (iI S 322 1) (iI S 322 2) (iI S 322 3) g) = 0 then B_X5_findBestPlan_22 k10 fl f 321 (oI c) (oI ((j + 1 : Nat) : Int)) S1 else bd (F_X5_findMoves fl 321 S1) fun q10 => if q10.1 = 0 then B_X5_findBestPlan_22 k10 fl f 321 (oI c) (oI ((j + 1 : Nat) : Int)) q10.2 else some ((1 : Int32), q10.2)) := by
      conv => lhs; unfold B_X5_findBestPlan_22 B_X5_findBestPlan_55
      rw [ld_321_0 hB.1, bd_some, show gI S 0 1 = oI (n : Int) from by rw [gI_oI, c_pc hB.2.2.2.1, h0], if_neg (by rw [oI_le (by omega) (by omega) (by omega) (by omega)]; omega), ld_321_13 hB.1, bd_some, gd_t ((oI_inR (by omega) (by omega)).mpr (by omega))]
      dsimp only
      rw [show (oI (j : Int)).toNatClampNeg = j from by rw [oI_nat (by omega) (by omega)]; rfl, show gI S 333 j = oI (g : Int) from by rw [gI_oI, g1], x1, bd_some, show oI (j : Int) + 1 = oI ((j + 1 : Nat) : Int) from by rw [oI_lit, oI_add]; rfl]
    have F1 : FG S S1 bpC := FG_mono x2 (by unfold bpC; omega)
    have G1 : BG S1 M kd ln br n := BG_FG x2 (by unfold bpC; omega) hG
    have n33 : ∀ S', FG S S' bpC → ∀ i, iI S' 333 i = iI S 333 i := fun S' F i => FG_I F (by unfold bpC; omega)
    have n12 : ∀ S', FG S S' bpC → iI S' 321 2 = c := fun S' F => by rw [FG_I F (by unfold bpC; omega)]; exact h2
    -- what is behind j, and j itself without a plan
    have next : ∀ S', FG S S' bpC → BG S' M kd ln br n → (ftM M kd ln br g → ∀ a b, ¬ okL M c g a b) → B_X5_findBestPlan_22 k10 fl (f + 1) 321 (oI c) (oI j) S = B_X5_findBestPlan_22 k10 fl f 321 (oI c) (oI ((j + 1 : Nat) : Int)) S' → _ := fun S' F G hg0 e => by
      have := ih (j + 1) S' f G (n12 S' F) (by omega) (by omega) (fun i hi g' a b e' ht ho => by
        rw [n33 S' F] at e'
        by_cases hij : i = j
        · subst hij
          have : g' = g := by omega
          subst this
          exact hg0 ht a b ho
        · exact hno i (by omega) g' a b e' ht ho)
      rw [← e] at this
      exact this
    by_cases hcond : sm (bkH M g) (iI S 341 1).toNat 0 ≤ c ∧ ftP S (iI S 322 0) (iI S 322 1) (iI S 322 2) (iI S 322 3) g
    · rw [ifB_t hcond] at step
      have hG1 : GS S1 M g c := ⟨G1.1, G1.2.1, n12 S1 F1, hc2, by rw [FG_I x2 (by omega)]; omega, x3, x4, by rw [x5, FG_I x2 (by omega)]⟩
      obtain ⟨S2, r, y1, y2, y3⟩ := X5_findMoves (fl := fl) hfl hG1
      rw [y1, bd_some] at step
      dsimp only at step
      have F2 : FG S S2 bpC := FG_trans F1 (FG_mono y2 (by unfold fmC bpC; omega))
      rcases y3 with ⟨rfl, k1, k2, z1, z2, z3, z4⟩ | ⟨rfl, z1⟩
      · rw [if_neg (by decide)] at step
        refine Or.inl ⟨S2, g, k1, k2, step, F2, g2, eft.mp hcond.2, z1, fun g' a b hg' ht ho => ?_, z3, z4⟩
        obtain ⟨i, i1, i2⟩ := hSO.2.1 g' hg' trivial
        rcases Nat.lt_trichotomy i j with hij | hij | hij
        · exact absurd ho (hno i hij g' a b i2 ht)
        · subst hij
          have : g' = g := by omega
          subst this
          have := z2 a b ho
          omega
        · have := hSO.2.2 j i hij i1 g g' g1 i2
          omega
      · rw [if_pos rfl] at step
        rcases next S2 F2 (BG_FG y2 (by unfold fmC bpC; omega) G1) (fun _ => z1) step with ⟨S', g', k1, k2, w1, w2, w3⟩ | ⟨S', w1, w2, w3⟩
        · exact Or.inl ⟨S', g', k1, k2, w1, FG_trans F2 w2, w3⟩
        · exact Or.inr ⟨S', w1, FG_trans F2 w2, w3⟩
    · rw [ifB_f hcond] at step
      have hg0 : ftM M kd ln br g → ∀ a b, ¬ okL M c g a b := fun ht a b ho => by
        have hw := ok_way hB hc2 ho.1
        have b1 := bkH_bd M g (a / 6)
        have b2 := bkH_bd M g (b / 6)
        refine hcond ⟨?_, eft.mpr ht⟩
        by_cases c1 : 1 ≤ c
        · by_cases c2 : 2 ≤ c
          · rw [if_pos c1, if_pos c2] at hw; omega
          · rw [if_pos c1, if_neg c2] at hw; omega
        · rw [if_neg c1, if_neg (by omega)] at hw; omega
      rcases next S1 F1 G1 hg0 step with ⟨S', g', k1, k2, w1, w2, w3⟩ | ⟨S', w1, w2, w3⟩
      · exact Or.inl ⟨S', g', k1, k2, w1, FG_trans F1 w2, w3⟩
      · exact Or.inr ⟨S', w1, FG_trans F1 w2, w3⟩
