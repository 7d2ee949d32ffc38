-- a plan with the right number of codes
def okL (M : Mem) (c g a b : Nat) : Prop := okK M c g a b ∧ (c = 0 → a = 0) ∧ (c ≤ 1 → b = 0)
def FM (S M : Mem) (g c : Nat) (r : Int32) : Prop := (r = 1 ∧ ∃ k1 k2, okL M c g k1 k2 ∧ (∀ a b, okL M c g a b → k1 < a ∨ k1 = a ∧ k2 ≤ b) ∧ SL S M (W2 k1 k2) (D2 g k1 k2) c ∧ ∀ i, 1 ≤ i → i ≤ c → iI S 324 i = W2 k1 k2 i) ∨ (r = 0 ∧ ∀ a b, ¬ okL M c g a b)
theorem X5_fm25 {fl : Nat} (hfl : 1000 ≤ fl) {M : Mem} {g c n : Nat} (hc : c = 1 ∨ c = 2) : ∀ (m one : Nat) (S : Mem) (f : Nat), GS S M g c → iI S 341 1 = n → one + m = 6 * n → m < f → (∀ a b, a < one → ¬ okL M c g a b) →
    ∃ S' r, B_X5_findMoves_25 fl f 321 (oI ((6 * n : Nat) : Int)) (oI one) S = some (r, S') ∧ FG S S' fmC ∧ FM S' M g c r := by
  intro m
  induction m with
  | zero =>
    intro one S f hG hn h hf hno
    obtain ⟨f, rfl⟩ : ∃ f', f = f' + 1 := ⟨f - 1, by omega⟩
    have bn := VRn hG.1.2.2.1
    unfold VN at bn
    refine ⟨S, 0, ?_, FG_refl _ _, Or.inr ⟨rfl, fun a b ho => ?_⟩⟩
    · unfold B_X5_findMoves_25
      rw [if_pos (by rw [oI_le (by omega) (by omega) (by omega) (by omega)]; omega)]
    · have := (mvO_b hG.1 (ho.1.1 (by omega))).2.1
      exact hno a b (by omega) ho
  | succ m ih =>
    intro one S f hG hn h hf hno
    obtain ⟨f, rfl⟩ : ∃ f', f = f' + 1 := ⟨f - 1, by omega⟩
    have bn := VRn hG.1.2.2.1
    unfold VN at bn
    have kb := K_bd S M g (n := n) (by omega)
    have b1 := bkH_bd M g (one / 6)
    have d6 := div6 one (by omega)
    have en : oI (one : Int) + 1 = oI ((one + 1 : Nat) : Int) := by rw [oI_lit, oI_add]; rfl
    have h8 := hG.2.2.2.2.2.2.2
    rw [hn, Int.toNat_natCast] at h8
    obtain ⟨S1, g1, g2, gr, g3⟩ := X5_chooseMove (fl := fl) hG.1 (g := g) (by omega) (by have := hG.2.2.2.2.1; omega) hG.2.2.2.2.2.1 (k := 1) (by omega) (by omega) (q := one / 6) (p := one % 6) (by rw [hn]; omega) (by omega) (mc := c) hG.2.2.1 (by omega) (by omega) (w := sm (bkH M g) n 0) h8 (by omega) (by omega)
    have G1 : GS S1 M g c := GS_FG g2 (by unfold fmC; omega) hG
    have n1 : iI S1 341 1 = n := by rw [FG_I g2 (by omega)]; exact hn
    have F1 : FG S S1 fmC := FG_mono g2 (by unfold fmC; omega)
    have step : B_X5_findMoves_25 fl (f + 1) 321 (oI ((6 * n : Nat) : Int)) (oI one) S = (if oB (mvO M (iI M 342) (one / 6) (one % 6) ∧ sm (bkH M g) n 0 - bkH M g (one / 6) ≤ c - (1 : Nat)) = 0 then B_X5_findMoves_25 fl f 321 (oI ((6 * n : Nat) : Int)) (oI ((one + 1 : Nat) : Int)) S1 else if oI (c : Int) = 1 then (bd (F_X5_isRight fl 321 S1) fun q17 => if q17.1 = 0 then B_X5_findMoves_66 (B_X5_findMoves_25 fl f) fl 321 (oI ((6 * n : Nat) : Int)) (oI one) q17.2 else some ((1 : Int32), q17.2)) else B_X5_findMoves_66 (B_X5_findMoves_25 fl f) fl 321 (oI ((6 * n : Nat) : Int)) (oI one) S1) := by
      conv => lhs; unfold B_X5_findMoves_25 B_X5_findMoves_128
      rw [if_neg (by rw [oI_le (by omega) (by omega) (by omega) (by omega)]; omega), d6.2, d6.1, show F_X5_chooseMove fl 321 1 (oI ((one / 6 : Nat) : Int)) (oI ((one % 6 : Nat) : Int)) S = _ from g1, bd_some, en]
      dsimp only
      rw [show gI S1 321 2 = oI (c : Int) from by rw [gI_oI, G1.2.2.1]]
    by_cases hcond : mvO M (iI M 342) (one / 6) (one % 6) ∧ sm (bkH M g) n 0 - bkH M g (one / 6) ≤ c - (1 : Nat)
    · rw [ifB_t hcond] at step
      have z := g3 hcond
      have s1 : S1P S1 M 1 (one / 6) (one % 6) := ⟨z.1, z.2.1, z.2.2.1, z.2.2.2.1, z.2.2.2.2.1, z.2.2.2.2.2.1⟩
      have h66 : ∀ (S2 : Mem), PB S2 M → iI S2 324 1 = ((one / 6 : Nat) : Int) → B_X5_findMoves_66 (B_X5_findMoves_25 fl f) fl 321 (oI ((6 * n : Nat) : Int)) (oI one) S2 = B_X5_findMoves_81 (B_X5_findMoves_25 fl f) fl fl 321 (oI ((6 * n : Nat) : Int)) (oI one) (oI ((6 * (one / 6 + 1) : Nat) : Int)) S2 := by
        intro S2 hB2 e2
        unfold B_X5_findMoves_66
        rw [ld_321_4 hB2.1, bd_some, gd_t (by decide)]
        dsimp only
        rw [show gI S2 324 (1 : Int32).toNatClampNeg = oI ((one / 6 : Nat) : Int) from by rw [gI_oI]; exact congrArg oI e2, show (oI ((one / 6 : Nat) : Int) + 1) * 6 = oI ((6 * (one / 6 + 1) : Nat) : Int) from by rw [oI_lit, oI_add, show (6 : Int32) = oI 6 from rfl, oI_mul]; congr 1; omega]
      rcases hc with rfl | rfl
      · rw [if_pos (show oI ((1 : Nat) : Int) = 1 from rfl)] at step
        have sl := SL_1 (k1 := one) (k2 := 0) G1 s1 hcond.1
        obtain ⟨S2, b, r1, r2, r3, r4⟩ := X5_isRight (fl := fl) hfl G1.1 sl G1.2.1
        rw [r1, bd_some] at step
        dsimp only at step
        have F2 : FG S1 S2 fmC := FG_mono r2 (by unfold fmC; omega)
        rcases r4 with ⟨rb, rc⟩ | ⟨rb, rc⟩
        · rw [rb, if_neg (by decide)] at step
          refine ⟨S2, 1, step, FG_trans F1 F2, Or.inl ⟨rfl, one, 0, ⟨⟨fun _ => hcond.1, fun h => by omega, rc⟩, fun h => by omega, fun _ => rfl⟩, fun a b ho => ?_, SL_FG r2 (by omega) r3 sl, fun i i1 i2 => ?_⟩⟩
          · by_cases ha : a < one
            · exact absurd ho (hno a b ha)
            · have := ho.2.2 (by omega); omega
          · have : i = 1 := by omega
            subst this
            rw [FG_I r2 (by omega)]; exact s1.2.1
        · rw [rb, if_pos rfl] at step
          have G2 : GS S2 M g 1 := GS_FG r2 (by unfold fmC; omega) G1
          obtain ⟨fl', rfl⟩ : ∃ k, fl = k + 1 := ⟨fl - 1, by omega⟩
          rw [h66 S2 G2.1 (by rw [FG_I r2 (by omega)]; exact s1.2.1)] at step
          have e81 : B_X5_findMoves_81 (B_X5_findMoves_25 (fl' + 1) f) (fl' + 1) (fl' + 1) 321 (oI ((6 * n : Nat) : Int)) (oI one) (oI ((6 * (one / 6 + 1) : Nat) : Int)) S2 = B_X5_findMoves_25 (fl' + 1) f 321 (oI ((6 * n : Nat) : Int)) (oI ((one + 1 : Nat) : Int)) S2 := by
            conv => lhs; unfold B_X5_findMoves_81 B_X5_findMoves_128
            rw [show gI S2 321 2 = 1 from by rw [gI_oI, G2.2.2.1]; rfl, if_neg (by decide), en]
          rw [e81] at step
          obtain ⟨S', r, x1, x2, x3⟩ := ih (one + 1) S2 f G2 (by rw [FG_I r2 (by omega)]; exact n1) (by omega) (by omega) (fun a b hab ho => by
            by_cases ha : a = one
            · subst ha
              have hb0 := ho.2.2 (by omega)
              subst hb0
              exact rc ho.1.2.2
            · exact hno a b (by omega) ho)
          exact ⟨S', r, step.trans x1, FG_trans F1 (FG_trans F2 x2), x3⟩
      · rw [if_neg (show ¬ oI ((2 : Nat) : Int) = 1 from by decide), h66 S1 G1.1 s1.2.1] at step
        have mb := mvO_b hG.1 hcond.1
        rcases X5_fm81 (fl := fl) hfl (k25 := B_X5_findMoves_25 fl f) hcond.1 (6 * n - 6 * (one / 6 + 1)) (6 * (one / 6 + 1)) S1 fl G1 n1 s1 z.2.2.2.2.2.2 (by omega) (by omega) (by omega) (fun k2 hk ho => by
            have := (ho.2.1 (by omega)).2
            omega) with ⟨k2, S', x1, x2, x3, x4, x5, x6⟩ | ⟨S', x1, x2, x3⟩
        · refine ⟨S', 1, step.trans x1, FG_trans F1 x4, Or.inl ⟨rfl, one, k2, ⟨x2, fun h => by omega, fun h => by omega⟩, fun a b ho => ?_, x5, x6⟩⟩
          by_cases ha : a < one
          · exact absurd ho (hno a b ha)
          · by_cases ha2 : a = one
            · subst ha2
              refine Or.inr ⟨rfl, Nat.le_of_not_lt fun hlt => x3 b hlt ho.1⟩
            · omega
        · rw [en] at x1
          obtain ⟨S'', r, y1, y2, y3⟩ := ih (one + 1) S' f (GS_FG x2 (fun _ _ h => h) G1) (by rw [FG_I x2 (by unfold fmC; omega)]; exact n1) (by omega) (by omega) (fun a b hab ho => by
            by_cases ha : a = one
            · subst ha
              exact x3 b ho.1
            · exact hno a b (by omega) ho)
          exact ⟨S'', r, (step.trans x1).trans y1, FG_trans F1 (FG_trans x2 y2), y3⟩
    · rw [ifB_f hcond] at step
      obtain ⟨S', r, x1, x2, x3⟩ := ih (one + 1) S1 f G1 n1 (by omega) (by omega) (fun a b hab ho => by
        by_cases ha : a = one
        · subst ha
          have hw := ok_way hG.1 (by omega) ho.1
          have b2 := bkH_bd M g (b / 6)
          have hmv := ho.1.1 (by omega)
          rw [hn, Int.toNat_natCast, if_pos (by omega)] at hw
          refine hcond ⟨hmv, ?_⟩
          rcases hc with rfl | rfl
          · rw [if_neg (by omega)] at hw; omega
          · rw [if_pos (by omega)] at hw; omega
        · exact hno a b (by omega) ho)
      exact ⟨S', r, step.trans x1, FG_trans F1 x2, x3⟩
theorem X5_findMoves {fl : Nat} (hfl : 1000 ≤ fl) {S M : Mem} {g c : Nat} (hG : GS S M g c) :
    ∃ S' r, F_X5_findMoves fl 321 S = some (r, S') ∧ FG S S' fmC ∧ FM S' M g c r := by
  have bn := VRn hG.1.2.2.1
  unfold VN at bn
  have hc2 := hG.2.2.2.1
  unfold F_X5_findMoves
  by_cases h0 : c = 0
  · subst h0
    have sl := SL_0 (k1 := 0) (k2 := 0) hG
    obtain ⟨S2, b, r1, r2, r3, r4⟩ := X5_isRight (fl := fl) hfl hG.1 sl hG.2.1
    rw [show gI S 321 2 = 0 from by rw [gI_oI, hG.2.2.1]; rfl, if_pos rfl, r1, bd_some]
    dsimp only
    have F2 : FG S S2 fmC := FG_mono r2 (by unfold fmC; omega)
    rcases r4 with ⟨rb, rc⟩ | ⟨rb, rc⟩
    · subst rb
      rw [gd_t (Or.inr rfl)]
      exact ⟨S2, 1, rfl, F2, Or.inl ⟨rfl, 0, 0, ⟨⟨fun h => by omega, fun h => by omega, rc⟩, fun _ => rfl, fun _ => rfl⟩, fun a b ho => by omega, SL_FG r2 (by omega) r3 sl, fun i i1 i2 => by omega⟩⟩
    · subst rb
      rw [gd_t (Or.inl rfl)]
      refine ⟨S2, 0, rfl, F2, Or.inr ⟨rfl, fun a b ho => ?_⟩⟩
      have ha := ho.2.1 rfl
      have hb := ho.2.2 (by omega)
      subst ha hb
      exact rc ho.1.2.2
  · obtain ⟨n, hn⟩ : ∃ n : Nat, iI S 341 1 = n := ⟨(iI S 341 1).toNat, by omega⟩
    rw [show gI S 321 2 = oI (c : Int) from by rw [gI_oI, hG.2.2.1], if_neg (by rw [show (0 : Int32) = oI 0 from rfl, oI_eq (by omega) (by omega) (by omega) (by omega)]; omega), ld_321_0 hG.1.1, bd_some, show gI S 0 3 = oI (n : Int) from by rw [gI_oI, c_qc hG.1.2.2.2.1, hn], show oI (n : Int) * 6 = oI ((6 * n : Nat) : Int) from by rw [show (6 : Int32) = oI 6 from rfl, oI_mul]; congr 1; omega]
    exact X5_fm25 hfl (by omega) (6 * n) 0 S fl hG hn (by omega) (by omega) (fun a b h => by omega)
