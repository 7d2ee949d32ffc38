theorem sm_sub (h g : Nat → Int) : ∀ (m i : Nat), sm (fun p => h p - g p) m i = sm h m i - sm g m i
  | 0, _ => rfl
  | m + 1, i => by
    rw [sm_s, sm_s, sm_s, sm_sub h g m (i + 1)]
    omega
-- a plan is right: W 0 = 12 and the moved ones
def RC (M : Mem) (W D : Nat → Nat) (c : Nat) : Prop := (∀ i, i < c + 1 → alT M (PT M W D c) (W i)) ∧ slT M (PT M W D c) ∧ (∀ i, i < c + 1 → hpT M (PT M W D c) (W i)) ∧ gaT M (PT M W D c) ≤ gaT M (iI M 342)
theorem bt_new {M : Mem} (hF : vF M) {T : Nat → Int} {g : Int} {j : Nat} (hj : ¬ inN M 12 j) : bt (moT M T g (-1)) j = bt (moT M T g 12) j := by
  refine Bx ?_
  rw [bt_moT hF, bt_moT hF]
  constructor
  · rintro ⟨q, h1, h2, h3, h4⟩
    have : q ≠ 12 := fun z => by subst z; exact hj h4
    exact ⟨q, h1, h2, by omega, h4⟩
  · rintro ⟨q, h1, h2, h3, h4⟩
    exact ⟨q, h1, h2, by omega, h4⟩
theorem X5_isRight {fl : Nat} (hfl : 1000 ≤ fl) {S M : Mem} {W D : Nat → Nat} {c : Nat} (hB : PB S M) (hS : SL S M W D c) (hbl : BL S M) :
    ∃ S' b, F_X5_isRight fl 321 S = some (b, S') ∧ FG S S' (fun k j => k = 331) ∧ (∀ j, gR S' 323 j = gR S 323 j) ∧ ((b = 1 ∧ RC M W D c) ∨ (b = 0 ∧ ¬ RC M W D c)) := by
  have hB' := hB
  obtain ⟨hs, hcs, hv, hc, hL, hF, m3, m4, m5, m6, m7⟩ := hB'
  have bn := VRn hv
  unfold VN at bn
  have c2 := hS.2.1
  obtain ⟨S', g1, g2, g3, g4⟩ := X5_seatAll (fl := fl) hfl hB hS hbl
  have hB1 : PB S' M := PB_FG g2 (by unfold plC; omega) hB
  have hS1 : SL S' M W D c := SL_FG g2 (by omega) g3 hS
  have hbl1 : BL S' M := ⟨fun x hx => by rw [FG_L g2 (by omega)]; rw [FG_I g2 (by omega)] at hx; exact hbl.1 x hx, fun c n h1 h2 => by rw [FG_I g2 (by omega)]; exact hbl.2 c n h1 h2⟩
  obtain ⟨d1, d2, d3⟩ := hS1.2.2.2.2.1 0 (by omega)
  have d1' : (D 0 : Int) < iI S 341 0 := by
    rw [FG_I g2 (by omega)] at d1
    exact d1
  have b12 := hF 12 (by omega)
  have hT12 : PT M W D c 12 = D 0 := by
    have := PLC_m (t := iI M 342) (D := D) hS.2.2.2.1 (c + 1) 0 (by omega) (by omega)
    rw [hS.2.2.1] at this
    exact this
  by_cases ha : ∀ i, i < c + 1 → alT M (PT M W D c) (W i)
  · have hpl := g4 ha
    have hv1 := hB1.2.2.1
    have ts := X1_isTooShort (fl := fl) hfl hB1.1 hB1.2.2.2.1 hv1 322 (moT M (PT M W D c) (D 0) (-1)) (f := iI M 343 12) (n := iI M 344 12) (by rw [FG_I g2 (by omega)]; exact m3.symm) (by rw [FG_I g2 (by omega)]; exact m4.symm) (by omega) (by omega) (by omega) (by omega)
    have esl : (askd S' (iI M 343 12) (iI M 344 12) ≤ iI M 344 12 ∨ (1 ≤ iI M 343 12 ∧ iI M 343 12 + iI M 344 12 < 60 ∧ bt (moT M (PT M W D c) (D 0) (-1)) (iI M 343 12 - 1).toNat = true ∧ bt (moT M (PT M W D c) (D 0) (-1)) (iI M 343 12 + iI M 344 12).toNat = true)) ↔ slT M (PT M W D c) := by
      unfold slT
      rw [hT12, askd_41 (M := S') (M' := M) (fun k => by rw [hL.1, FG_I g2 (by omega)])]
      by_cases h1 : 1 ≤ iI M 343 12 ∧ iI M 343 12 + iI M 344 12 < 60
      · rw [bt_new hF (j := (iI M 343 12 - 1).toNat) (by unfold inN; omega), bt_new hF (j := (iI M 343 12 + iI M 344 12).toNat) (by unfold inN; omega)]
      · constructor
        · rintro (h | h)
          · exact Or.inl h
          · exact absurd ⟨h.1, h.2.1⟩ h1
        · rintro (h | h)
          · exact Or.inl h
          · exact absurd ⟨h.1, h.2.1⟩ h1
    have hp := X5_hp2 (fl := fl) hfl hB1 hS1 hbl1 (c + 1) 0 fl (by omega) (by omega) (fun i hi => by omega)
    have hg := X5_mg4 (fl := fl) hfl (T := PT M W D c) hB1 hbl1 (fun i hi => hpl i (by rw [FG_I g2 (by omega)] at hi; exact hi)) (iI S' 341 0).toNat 0 0 fl (by have := VRn hv1; unfold VN at this; omega) (by have := VRn hv1; unfold VN at this; omega) (by omega) (by omega)
    have ega : (0 < 0 + sm (fun p => gN (moT M (PT M W D c) p (-1)) (iI S' 341 4) - gN (moT M (iI M 342) p (-1)) (iI S' 341 4)) (iI S' 341 0).toNat 0) ↔ ¬ (gaT M (PT M W D c) ≤ gaT M (iI M 342)) := by
      rw [sm_sub (fun p => gN (moT M (PT M W D c) p (-1)) (iI S' 341 4)) (fun p => gN (moT M (iI M 342) p (-1)) (iI S' 341 4))]
      unfold gaT
      rw [hL.1, hL.1, ← show iI S' 341 4 = iI S 341 4 from FG_I g2 (by omega), ← show iI S' 341 0 = iI S 341 0 from FG_I g2 (by omega)]
      omega
    have start : F_X5_isRight fl 321 S = (bd (F_X1_isTooShort fl 0 322 (moT M (PT M W D c) (D 0) (-1)) S') fun q14 => if q14 = 0 then (bd (F_X5_hasPower fl 321 S') fun q17 => if q17 = 0 then some ((0 : Int32), S') else bd (F_X5_makesGaps fl 321 S') fun q20 => if q20 = 0 then some ((1 : Int32), S') else some ((0 : Int32), S')) else some ((0 : Int32), S')) := by
      unfold F_X5_isRight
      rw [g1, bd_some]
      dsimp only
      rw [ifB_t ha, ld_321_0 hB1.1, bd_some, ld_321_1 hB1.1, bd_some, ld_321_11 hB1.1, bd_some, ld_321_6 hB1.1, bd_some, gd_t (by decide)]
      dsimp only
      rw [show gI S' 326 (0 : Int32).toNatClampNeg = oI (D 0 : Int) from by rw [gI_oI]; exact congrArg oI d2, gd_t ((oI_inR (by omega) (by omega)).mpr (by omega)), show gL S' 331 (oI (D 0 : Int)).toNatClampNeg = moT M (PT M W D c) (D 0) (-1) from by rw [oI_nat (by omega) (by omega), Int.toNat_natCast]; exact hpl (D 0) d1']
    rw [ts, bd_some] at start
    by_cases hsl : slT M (PT M W D c)
    · rw [ifB_f (fun z => z (esl.mpr hsl)), show F_X5_hasPower fl 321 S' = _ from hp, bd_some] at start
      by_cases hhp : ∀ i, i < c + 1 → hpT M (PT M W D c) (W i)
      · rw [ifB_t hhp, show F_X5_makesGaps fl 321 S' = _ from hg, bd_some] at start
        by_cases hga : gaT M (PT M W D c) ≤ gaT M (iI M 342)
        · rw [ifB_f (fun z => ega.mp z hga)] at start
          exact ⟨S', 1, start, g2, g3, Or.inl ⟨rfl, ha, hsl, hhp, hga⟩⟩
        · rw [ifB_t (ega.mpr hga)] at start
          exact ⟨S', 0, start, g2, g3, Or.inr ⟨rfl, fun z => hga z.2.2.2⟩⟩
      · rw [ifB_f hhp] at start
        exact ⟨S', 0, start, g2, g3, Or.inr ⟨rfl, fun z => hhp z.2.2.1⟩⟩
    · rw [ifB_t (show ¬ (askd S' (iI M 343 12) (iI M 344 12) ≤ iI M 344 12 ∨ (1 ≤ iI M 343 12 ∧ iI M 343 12 + iI M 344 12 < 60 ∧ bt (moT M (PT M W D c) (D 0) (-1)) (iI M 343 12 - 1).toNat = true ∧ bt (moT M (PT M W D c) (D 0) (-1)) (iI M 343 12 + iI M 344 12).toNat = true)) from fun z => hsl (esl.mp z))] at start
      exact ⟨S', 0, start, g2, g3, Or.inr ⟨rfl, fun z => hsl z.2.1⟩⟩
  · refine ⟨S', 0, ?_, g2, g3, Or.inr ⟨rfl, fun z => ha z.1⟩⟩
    unfold F_X5_isRight
    rw [g1, bd_some]
    dsimp only
    rw [ifB_f ha]
-- the plans by codes: k1 and k2 are 6 times the party plus its pitch
def W2 (k1 k2 : Nat) (i : Nat) : Nat := if i = 0 then 12 else if i = 1 then k1 / 6 else k2 / 6
def D2 (g k1 k2 : Nat) (i : Nat) : Nat := if i = 0 then g else if i = 1 then k1 % 6 else k2 % 6
def okK (M : Mem) (c g k1 k2 : Nat) : Prop := (1 ≤ c → mvO M (iI M 342) (k1 / 6) (k1 % 6)) ∧ (2 ≤ c → mvO M (iI M 342) (k2 / 6) (k2 % 6) ∧ k1 / 6 < k2 / 6) ∧ RC M (W2 k1 k2) (D2 g k1 k2) c
theorem W2_inj {M : Mem} {c k1 k2 : Nat} (hc : c ≤ 2) (h1 : 1 ≤ c → k1 / 6 < 12) (h2 : 2 ≤ c → k2 / 6 < 12 ∧ k1 / 6 < k2 / 6) : inj (W2 k1 k2) c := by
  intro i j hi hj h
  unfold W2 at h
  have : (i = 0 ∨ i = 1 ∨ i = 2) ∧ (j = 0 ∨ j = 1 ∨ j = 2) := by omega
  rcases this with ⟨rfl | rfl | rfl, rfl | rfl | rfl⟩ <;> simp at h <;> omega
theorem sm_two {h : Nat → Int} {a b : Nat} (hn : ∀ q, 0 ≤ h q) (hz : ∀ q, q ≠ a → q ≠ b → h q = 0) (hab : a ≠ b) : ∀ (m i : Nat), sm h m i ≤ (if i ≤ a then h a else 0) + (if i ≤ b then h b else 0)
  | 0, i => by
    rw [sm_0]
    have := hn a
    have := hn b
    split <;> split <;> omega
  | m + 1, i => by
    have ih := sm_two hn hz hab m (i + 1)
    rw [sm_s]
    have ha := hn a
    have hb := hn b
    by_cases h1 : i = a
    · subst h1
      rw [if_neg (by omega)] at ih
      rw [if_pos (Nat.le_refl _)]
      by_cases h2 : i + 1 ≤ b
      · rw [if_pos h2] at ih; rw [if_pos (by omega)]; omega
      · rw [if_neg h2] at ih; rw [if_neg (by omega)]; omega
    · by_cases h3 : i = b
      · subst h3
        rw [show (if i + 1 ≤ i then h i else 0) = 0 from if_neg (by omega)] at ih
        rw [show (if i ≤ i then h i else 0) = h i from if_pos (Nat.le_refl _)]
        by_cases h2 : i + 1 ≤ a
        · rw [if_pos h2] at ih; rw [if_pos (by omega)]; omega
        · rw [if_neg h2] at ih; rw [if_neg (by omega)]; omega
      · rw [hz i h1 h3]
        by_cases h2 : i + 1 ≤ a
        · rw [if_pos h2] at ih
          rw [if_pos (by omega : i ≤ a)]
          by_cases h4 : i + 1 ≤ b
          · rw [if_pos h4] at ih; rw [if_pos (by omega)]; omega
          · rw [if_neg h4] at ih; rw [if_neg (by omega)]; omega
        · rw [if_neg h2] at ih
          rw [if_neg (by omega : ¬ i ≤ a)]
          by_cases h4 : i + 1 ≤ b
          · rw [if_pos h4] at ih; rw [if_pos (by omega)]; omega
          · rw [if_neg h4] at ih; rw [if_neg (by omega)]; omega
theorem sm_le2 {h : Nat → Int} {a b : Nat} (hn : ∀ q, 0 ≤ h q) (hz : ∀ q, q ≠ a → q ≠ b → h q = 0) (hab : a ≠ b) (m : Nat) : sm h m 0 ≤ h a + h b := by
  have := sm_two hn hz hab m 0
  rw [if_pos (Nat.zero_le _), if_pos (Nat.zero_le _)] at this
  exact this
-- who is in the way of a right plan is moved by it
theorem way_in {M : Mem} (hF : vF M) {W D : Nat → Nat} {c : Nat} (hW : inj W c) (h0 : W 0 = 12) (hR : RC M W D c) {q : Nat} (hq : q ≤ 12) (hb : bkP M (D 0) q) (h12 : iI M 342 12 = -1) : ∃ i, 1 ≤ i ∧ i ≤ c ∧ W i = q := by
  apply Classical.byContradiction
  intro hn
  have hn' : ∀ i, i ≤ c → W i ≠ q := fun i hi z => by
    by_cases hi0 : i = 0
    · subst hi0
      rw [h0] at z
      subst z
      have := hb.1
      omega
    · exact hn ⟨i, by omega, hi, z⟩
  have a0 := hR.1 0 (by omega)
  have hq12 : q ≠ 12 := fun z => hn' 0 (by omega) (by rw [h0, z])
  rw [h0] at a0
  have T12 : PT M W D c 12 = D 0 := by
    have := PLC_m (t := iI M 342) (D := D) hW (c + 1) 0 (by omega) (by omega)
    rw [h0] at this
    exact this
  have Tq : PT M W D c q = D 0 := by
    unfold PT
    rw [PLC_n (c + 1) (fun i hi => hn' i (by omega))]
    exact hb.1
  have dis := (alT_iff hF _ (by omega)).mp a0 q hq hq12 (by rw [Tq, T12])
  refine hb.2 ((and_z _ _).mpr fun j _ hj => ?_)
  have bq := hF q hq
  have b12 := hF 12 (by omega)
  exact dis j ⟨(bt_mI bq.1 bq.2.1 bq.2.2.1 bq.2.2.2.1).mp hj.1, (bt_mI b12.1 b12.2.1 b12.2.2.1 b12.2.2.2.1).mp hj.2⟩
