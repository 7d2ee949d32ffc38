theorem div6 : ∀ n, n < 80 → oI ((n : Nat) : Int) / (6 : Int32) = oI ((n / 6 : Nat) : Int) ∧ oI ((n : Nat) : Int) - oI ((n : Nat) : Int) / (6 : Int32) * (6 : Int32) = oI ((n % 6 : Nat) : Int) := by decide +kernel
def GS (S M : Mem) (g c : Nat) : Prop := PB S M ∧ BL S M ∧ iI S 321 2 = c ∧ c ≤ 2 ∧ (g : Int) < iI S 341 0 ∧ iI S 326 0 = g ∧ iI S 328 0 = ciM M g ∧ iI S 329 0 = sm (bkH M g) (iI S 341 1).toNat 0
def fmC (a j : Nat) : Prop := 324 ≤ a ∧ a ≤ 329 ∧ 1 ≤ j ∨ a = 331
theorem GS_FG {S S' M : Mem} {g c : Nat} {C : Nat → Nat → Prop} (F : FG S S' C) (hC : ∀ k j, C k j → fmC k j) (h : GS S M g c) : GS S' M g c := by
  obtain ⟨h1, h2, h3, h4, h5, h6, h7, h8⟩ := h
  have F' : FG S S' fmC := FG_mono F hC
  refine ⟨PB_FG F' (by unfold fmC plC; omega) h1, ⟨fun x hx => ?_, fun c n hc hn => ?_⟩, ?_, h4, ?_, ?_, ?_, ?_⟩
  · rw [FG_L F' (by unfold fmC; omega)]
    rw [FG_I F' (by unfold fmC; omega)] at hx
    exact h2.1 x hx
  · rw [FG_I F' (by unfold fmC; omega)]; exact h2.2 c n hc hn
  · rw [FG_I F' (by unfold fmC; omega)]; exact h3
  · rw [FG_I F' (by unfold fmC; omega)]; exact h5
  · rw [FG_I F' (by unfold fmC; omega)]; exact h6
  · rw [FG_I F' (by unfold fmC; omega)]; exact h7
  · rw [FG_I F' (by unfold fmC; omega), FG_I F' (by unfold fmC; omega)]; exact h8
def S1P (S M : Mem) (k q p : Nat) : Prop := gR S 323 k = some (9 + q) ∧ iI S 324 k = q ∧ iI S 325 k = iI M 342 q ∧ iI S 326 k = p ∧ iI S 327 k = ciM M (iI M 342 q) ∧ iI S 328 k = ciM M p
theorem S1P_FG {S S' M : Mem} {k q p : Nat} {C : Nat → Nat → Prop} (F : FG S S' C) (hC : ∀ a, 324 ≤ a → a ≤ 328 → ¬ C a k) (hR : gR S' 323 k = gR S 323 k) (h : S1P S M k q p) : S1P S' M k q p := by
  obtain ⟨h1, h2, h3, h4, h5, h6⟩ := h
  refine ⟨hR.trans h1, ?_, ?_, ?_, ?_, ?_⟩
  · rw [FG_I F (hC _ (by omega) (by omega))]; exact h2
  · rw [FG_I F (hC _ (by omega) (by omega))]; exact h3
  · rw [FG_I F (hC _ (by omega) (by omega))]; exact h4
  · rw [FG_I F (hC _ (by omega) (by omega))]; exact h5
  · rw [FG_I F (hC _ (by omega) (by omega))]; exact h6
theorem mvO_b {S M : Mem} (hB : PB S M) {q p : Nat} (h : mvO M (iI M 342) q p) : q < 12 ∧ (q : Int) < iI S 341 1 ∧ (p : Int) < iI S 341 0 ∧ p < 6 := by
  have bn := VRn hB.2.2.1
  unfold VN at bn
  have e := hB.2.2.2.2.1.1
  have h1 := h.1
  have h2 := h.2.1
  rw [e] at h1 h2
  omega
theorem SL_0 {S M : Mem} {g k1 k2 : Nat} (h : GS S M g 0) : SL S M (W2 k1 k2) (D2 g k1 k2) 0 := by
  obtain ⟨h1, h2, h3, h4, h5, h6, h7, h8⟩ := h
  refine ⟨h3, by omega, rfl, W2_inj (M := M) (by omega) (by omega) (by omega), fun k hk => ?_, fun k hk1 hk2 => by omega⟩
  have : k = 0 := by omega
  subst this
  exact ⟨h5, h6, h7⟩
theorem SL_1 {S M : Mem} {g k1 k2 : Nat} (h : GS S M g 1) (s1 : S1P S M 1 (k1 / 6) (k1 % 6)) (hm : mvO M (iI M 342) (k1 / 6) (k1 % 6)) : SL S M (W2 k1 k2) (D2 g k1 k2) 1 := by
  obtain ⟨h1, h2, h3, h4, h5, h6, h7, h8⟩ := h
  have mb := mvO_b h1 hm
  refine ⟨h3, by omega, rfl, W2_inj (M := M) (by omega) (fun _ => mb.1) (by omega), fun k hk => ?_, fun k hk1 hk2 => ?_⟩
  · have : k = 0 ∨ k = 1 := by omega
    rcases this with rfl | rfl
    · exact ⟨h5, h6, h7⟩
    · exact ⟨mb.2.2.1, s1.2.2.2.1, s1.2.2.2.2.2⟩
  · have : k = 1 := by omega
    subst this
    exact ⟨mb.1, hm.2.2.1, s1.1, s1.2.2.1, s1.2.2.2.2.1⟩
theorem SL_2 {S M : Mem} {g k1 k2 : Nat} (h : GS S M g 2) (s1 : S1P S M 1 (k1 / 6) (k1 % 6)) (hm : mvO M (iI M 342) (k1 / 6) (k1 % 6)) (s2 : S1P S M 2 (k2 / 6) (k2 % 6)) (hm2 : mvO M (iI M 342) (k2 / 6) (k2 % 6)) (hlt : k1 / 6 < k2 / 6) : SL S M (W2 k1 k2) (D2 g k1 k2) 2 := by
  obtain ⟨h1, h2, h3, h4, h5, h6, h7, h8⟩ := h
  have mb := mvO_b h1 hm
  have mb2 := mvO_b h1 hm2
  refine ⟨h3, by omega, rfl, W2_inj (M := M) (by omega) (fun _ => mb.1) (fun _ => ⟨mb2.1, hlt⟩), fun k hk => ?_, fun k hk1 hk2 => ?_⟩
  · have : k = 0 ∨ k = 1 ∨ k = 2 := by omega
    rcases this with rfl | rfl | rfl
    · exact ⟨h5, h6, h7⟩
    · exact ⟨mb.2.2.1, s1.2.2.2.1, s1.2.2.2.2.2⟩
    · exact ⟨mb2.2.2.1, s2.2.2.2.1, s2.2.2.2.2.2⟩
  · have : k = 1 ∨ k = 2 := by omega
    rcases this with rfl | rfl
    · exact ⟨mb.1, hm.2.2.1, s1.1, s1.2.2.1, s1.2.2.2.2.1⟩
    · exact ⟨mb2.1, hm2.2.2.1, s2.1, s2.2.2.1, s2.2.2.2.2.1⟩
-- only plans that can't be right are left out
theorem ok_way {S M : Mem} (hB : PB S M) {c g k1 k2 : Nat} (hc : c ≤ 2) (h : okK M c g k1 k2) : sm (bkH M g) (iI S 341 1).toNat 0 ≤ (if 1 ≤ c then bkH M g (k1 / 6) else 0) + (if 2 ≤ c then bkH M g (k2 / 6) else 0) := by
  have bn := VRn hB.2.2.1
  unfold VN at bn
  have hF := hB.2.2.2.2.2.1
  have h12 := hB.2.2.2.2.1.2.1
  obtain ⟨o1, o2, o3⟩ := h
  have hW : inj (W2 k1 k2) c := W2_inj (M := M) hc (fun z => (mvO_b hB (o1 z)).1) (fun z => ⟨(mvO_b hB (o2 z).1).1, (o2 z).2⟩)
  have hz : ∀ q, q ≤ 12 → bkH M g q ≠ 0 → (1 ≤ c ∧ q = k1 / 6) ∨ (2 ≤ c ∧ q = k2 / 6) := by
    intro q hq hne
    have hb : bkP M g q := by
      apply Classical.byContradiction
      intro z
      exact hne (if_neg z)
    obtain ⟨i, i1, i2, i3⟩ := way_in hF hW rfl o3 hq hb h12
    have : i = 1 ∨ i = 2 := by omega
    rcases this with rfl | rfl
    · exact Or.inl ⟨i2, i3.symm⟩
    · exact Or.inr ⟨i2, i3.symm⟩
  have e : sm (bkH M g) (iI S 341 1).toNat 0 = sm (fun q => if q ≤ 12 then bkH M g q else 0) (iI S 341 1).toNat 0 := sm_cg _ 0 (fun q _ hq => (if_pos (by omega)).symm)
  rw [e]
  have b1 := bkH_bd M g (k1 / 6)
  have b2 := bkH_bd M g (k2 / 6)
  by_cases c1 : 1 ≤ c
  · by_cases c2 : 2 ≤ c
    · have q1 := (mvO_b hB (o1 c1)).1
      have q2 := (mvO_b hB (o2 c2).1).1
      have := sm_le2 (h := fun q => if q ≤ 12 then bkH M g q else 0) (a := k1 / 6) (b := k2 / 6) (fun q => by have := bkH_bd M g q; split <;> omega) (fun q h1 h2 => by
        split
        · apply Classical.byContradiction
          intro z
          rcases hz q (by omega) z with w | w
          · exact h1 w.2
          · exact h2 w.2
        · rfl) (by have := (o2 c2).2; omega) (iI S 341 1).toNat
      rw [if_pos (by omega), if_pos (by omega)] at this
      rw [if_pos c1, if_pos c2]
      exact this
    · have q1 := (mvO_b hB (o1 c1)).1
      have := sm_le2 (h := fun q => if q ≤ 12 then bkH M g q else 0) (a := k1 / 6) (b := 99) (fun q => by have := bkH_bd M g q; split <;> omega) (fun q h1 h2 => by
        split
        · apply Classical.byContradiction
          intro z
          rcases hz q (by omega) z with w | w
          · exact h1 w.2
          · exact c2 w.1
        · rfl) (by omega) (iI S 341 1).toNat
      rw [if_pos (by omega), if_neg (by omega)] at this
      rw [if_pos c1, if_neg c2]
      exact this
  · rw [if_neg c1, if_neg (by omega)]
    rw [sm_z _ 0 (fun q _ hq => ?_)]
    · omega
    · rw [if_pos (by omega)]
      apply Classical.byContradiction
      intro z
      rcases hz q (by omega) z with w | w
      · exact c1 w.1
      · omega
theorem K_bd (S M : Mem) (g : Nat) {n : Nat} (h : n ≤ 12) : 0 ≤ sm (bkH M g) n 0 ∧ sm (bkH M g) n 0 ≤ 12 := by
  have := sm_bd (h := bkH M g) (b := 1) n 0 (fun q _ _ => bkH_bd M g q)
  omega
theorem X5_fm81 {fl : Nat} (hfl : 1000 ≤ fl) {M : Mem} {g k1 n : Nat} {k25 : Nat → Int32 → Int32 → Mem → Option (Int32 × Mem)} (hm : mvO M (iI M 342) (k1 / 6) (k1 % 6)) : ∀ (m two : Nat) (S : Mem) (f : Nat), GS S M g 2 → iI S 341 1 = n → S1P S M 1 (k1 / 6) (k1 % 6) → iI S 329 1 = sm (bkH M g) n 0 - bkH M g (k1 / 6) → two + m = 6 * n → 6 * (k1 / 6 + 1) ≤ two → m < f → (∀ k2, k2 < two → ¬ okK M 2 g k1 k2) →
    (∃ k2 S', B_X5_findMoves_81 k25 fl f 321 (oI ((6 * n : Nat) : Int)) (oI k1) (oI two) S = some (1, S') ∧ okK M 2 g k1 k2 ∧ (∀ k2', k2' < k2 → ¬ okK M 2 g k1 k2') ∧ FG S S' fmC ∧ SL S' M (W2 k1 k2) (D2 g k1 k2) 2 ∧ ∀ i, 1 ≤ i → i ≤ 2 → iI S' 324 i = W2 k1 k2 i) ∨
    (∃ S', B_X5_findMoves_81 k25 fl f 321 (oI ((6 * n : Nat) : Int)) (oI k1) (oI two) S = k25 321 (oI ((6 * n : Nat) : Int)) (oI k1 + 1) S' ∧ FG S S' fmC ∧ ∀ k2, ¬ okK M 2 g k1 k2) := by
  intro m
  induction m with
  | zero =>
    intro two S f hG hn s1 w1 h hlo hf hno
    obtain ⟨f, rfl⟩ : ∃ f', f = f' + 1 := ⟨f - 1, by omega⟩
    have bn := VRn hG.1.2.2.1
    unfold VN at bn
    refine Or.inr ⟨S, ?_, FG_refl _ _, fun k2 ho => ?_⟩
    · unfold B_X5_findMoves_81 B_X5_findMoves_128
      rw [show gI S 321 2 = 2 from by rw [gI_oI, hG.2.2.1]; rfl, if_pos rfl, if_pos (by rw [oI_le (by omega) (by omega) (by omega) (by omega)]; omega)]
    · by_cases hk : k2 < two
      · exact hno k2 hk ho
      · have := (mvO_b hG.1 (ho.2.1 (by omega)).1).2.1
        omega
  | succ m ih =>
    intro two S f hG hn s1 w1 h hlo hf hno
    obtain ⟨f, rfl⟩ : ∃ f', f = f' + 1 := ⟨f - 1, by omega⟩
    have bn := VRn hG.1.2.2.1
    unfold VN at bn
    have kb := K_bd S M g (n := n) (by omega)
    have b1 := bkH_bd M g (k1 / 6)
    have b2 := bkH_bd M g (two / 6)
    have d6 := div6 two (by omega)
    have en : oI (two : Int) + 1 = oI ((two + 1 : Nat) : Int) := by rw [oI_lit, oI_add]; rfl
    have h8 := hG.2.2.2.2.2.2.2
    rw [hn, Int.toNat_natCast] at h8
    obtain ⟨S1, g1, g2, gr, g3⟩ := X5_chooseMove (fl := fl) hG.1 (g := g) (by omega) (by have := hG.2.2.2.2.1; omega) hG.2.2.2.2.2.1 (k := 2) (by omega) (by omega) (q := two / 6) (p := two % 6) (by rw [hn]; omega) (by omega) (mc := 2) hG.2.2.1 (by omega) (by omega) (w := sm (bkH M g) n 0 - bkH M g (k1 / 6)) w1 (by omega) (by omega)
    have G1 : GS S1 M g 2 := GS_FG g2 (by unfold fmC; omega) hG
    have n1 : iI S1 341 1 = n := by rw [FG_I g2 (by omega)]; exact hn
    have s11 : S1P S1 M 1 (k1 / 6) (k1 % 6) := S1P_FG g2 (by omega) (gr 1 (by omega)) s1
    have w11 : iI S1 329 1 = sm (bkH M g) n 0 - bkH M g (k1 / 6) := by rw [FG_I g2 (by omega)]; exact w1
    have F1 : FG S S1 fmC := FG_mono g2 (by unfold fmC; omega)
    have step : B_X5_findMoves_81 k25 fl (f + 1) 321 (oI ((6 * n : Nat) : Int)) (oI k1) (oI two) S = (if oB (mvO M (iI M 342) (two / 6) (two % 6) ∧ sm (bkH M g) n 0 - bkH M g (k1 / 6) - bkH M g (two / 6) ≤ 2 - (2 : Nat)) = 0 then B_X5_findMoves_81 k25 fl f 321 (oI ((6 * n : Nat) : Int)) (oI k1) (oI ((two + 1 : Nat) : Int)) S1 else bd (F_X5_isRight fl 321 S1) fun q6 => if q6.1 = 0 then B_X5_findMoves_81 k25 fl f 321 (oI ((6 * n : Nat) : Int)) (oI k1) (oI ((two + 1 : Nat) : Int)) q6.2 else some ((1 : Int32), q6.2)) := by
      conv => lhs; unfold B_X5_findMoves_81 B_X5_findMoves_128 B_X5_findMoves_122
      rw [show gI S 321 2 = 2 from by rw [gI_oI, hG.2.2.1]; rfl, if_pos rfl, if_neg (by rw [oI_le (by omega) (by omega) (by omega) (by omega)]; omega), d6.2, d6.1, show F_X5_chooseMove fl 321 2 (oI ((two / 6 : Nat) : Int)) (oI ((two % 6 : Nat) : Int)) S = _ from g1, bd_some, en]
    by_cases hcond : mvO M (iI M 342) (two / 6) (two % 6) ∧ sm (bkH M g) n 0 - bkH M g (k1 / 6) - bkH M g (two / 6) ≤ 2 - (2 : Nat)
    · rw [ifB_t hcond] at step
      obtain ⟨z1, z2, z3, z4, z5, z6, z7⟩ := g3 hcond
      have hlt : k1 / 6 < two / 6 := by omega
      · have sl := SL_2 (k1 := k1) (k2 := two) G1 s11 hm ⟨z1, z2, z3, z4, z5, z6⟩ hcond.1 hlt
        obtain ⟨S2, b, r1, r2, r3, r4⟩ := X5_isRight (fl := fl) hfl G1.1 sl G1.2.1
        rw [r1, bd_some] at step
        dsimp only at step
        have F2 : FG S1 S2 fmC := FG_mono r2 (by unfold fmC; omega)
        rcases r4 with ⟨rb, rc⟩ | ⟨rb, rc⟩
        · rw [rb, if_neg (by decide)] at step
          refine Or.inl ⟨two, S2, step, ⟨fun _ => hm, fun _ => ⟨hcond.1, hlt⟩, rc⟩, hno, FG_trans F1 F2, SL_FG r2 (by omega) r3 sl, fun i i1 i2 => ?_⟩
          have : i = 1 ∨ i = 2 := by omega
          rcases this with rfl | rfl
          · rw [FG_I r2 (by omega)]; exact s11.2.1
          · rw [FG_I r2 (by omega)]; exact z2
        · rw [rb, if_pos rfl] at step
          have := ih (two + 1) S2 f (GS_FG r2 (by unfold fmC; omega) G1) (by rw [FG_I r2 (by omega)]; exact n1) (S1P_FG r2 (by omega) (r3 1) s11) (by rw [FG_I r2 (by omega)]; exact w11) (by omega) (by omega) (by omega) (fun k2 hk ho => by
            by_cases hkt : k2 = two
            · subst hkt; exact rc ho.2.2
            · exact hno k2 (by omega) ho)
          rw [step]
          rcases this with ⟨k2, S', x1, x2, x3, x4, x5, x6⟩ | ⟨S', x1, x2, x3⟩
          · exact Or.inl ⟨k2, S', x1, x2, x3, FG_trans F1 (FG_trans F2 x4), x5, x6⟩
          · exact Or.inr ⟨S', x1, FG_trans F1 (FG_trans F2 x2), x3⟩
    · rw [ifB_f hcond] at step
      have := ih (two + 1) S1 f G1 n1 s11 w11 (by omega) (by omega) (by omega) (fun k2 hk ho => by
        by_cases hkt : k2 = two
        · subst hkt
          have hw := ok_way hG.1 (by omega) ho
          rw [hn, Int.toNat_natCast, if_pos (by omega), if_pos (by omega)] at hw
          exact hcond ⟨(ho.2.1 (by omega)).1, by omega⟩
        · exact hno k2 (by omega) ho)
      rw [step]
      rcases this with ⟨k2, S', x1, x2, x3, x4, x5, x6⟩ | ⟨S', x1, x2, x3⟩
      · exact Or.inl ⟨k2, S', x1, x2, x3, FG_trans F1 x4, x5, x6⟩
      · exact Or.inr ⟨S', x1, FG_trans F1 x2, x3⟩
