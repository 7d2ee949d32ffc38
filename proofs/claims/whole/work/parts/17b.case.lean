-- (written by genZ.py) a case of the law, a row
theorem tlA {k28 : Int32 → Mem → Option Int32} {v5 : Int32} {fl : Nat} {k v : Int32} {s2 : Mem} (e3 : gI s2 340 0 = k) (e4 : k = 0 → gL s2 350 0 = Int32.toInt64 v) (hk : k28 v5 s2 = some 1) : (bd (F_X8_thrown fl 340 s2) fun q13 => if q13 = k then (if k = 0 then (if (lg_cmp (gL s2 350 (0 : Int32).toNatClampNeg) (Int32.toInt64 v)) = 0 then (k28 v5 s2) else some (0 : Int32)) else k28 v5 s2) else some (0 : Int32)) = some 1 := by
  unfold F_X8_thrown
  rw [bd_some, if_pos e3]
  by_cases h : k = 0
  · rw [if_pos h, show (0 : Int32).toNatClampNeg = 0 from by decide, e4 h, if_pos ((lgcE _ _).mpr rfl)]
    exact hk
  · rw [if_neg h]
    exact hk
theorem tlD {k28 : Int32 → Mem → Option Int32} {v5 : Int32} {fl : Nat} {k : Int32} {v : UInt64} {s2 : Mem} (e3 : gI s2 340 0 = k) (e4 : k = 0 → gD s2 351 0 = v) (hk : k28 v5 s2 = some 1) : (bd (F_X8_thrown fl 340 s2) fun q13 => if q13 = k then (if k = 0 then (if (Op.cmpValue (FP.dcmp (gD s2 351 (0 : Int32).toNatClampNeg) v) CmpOp.l) = 0 then (k28 v5 s2) else if (Op.cmpValue (FP.dcmp (gD s2 351 (0 : Int32).toNatClampNeg) (gD s2 351 (0 : Int32).toNatClampNeg)) CmpOp.l) = 0 then (some (0 : Int32)) else if (Op.cmpValue (FP.dcmp v v) CmpOp.l) = 0 then (some (0 : Int32)) else k28 v5 s2) else k28 v5 s2) else some (0 : Int32)) = some 1 := by
  unfold F_X8_thrown
  rw [bd_some, if_pos e3]
  by_cases h : k = 0
  · rw [if_pos h, show (0 : Int32).toNatClampNeg = 0 from by decide, e4 h]
    by_cases hc : Op.cmpValue (FP.dcmp v v) CmpOp.l = 0
    · rw [if_pos hc]
      exact hk
    · rw [if_neg hc, if_neg hc, if_neg hc]
      exact hk
  · rw [if_neg h]
    exact hk
def inS (v5 : Int32) (Ln : Nat) : Prop := inR (v5 + (1 : Int32)) Ln ∧ inR (v5 + (2 : Int32)) Ln ∧ inR (v5 + (3 : Int32)) Ln ∧ inR (v5 + (4 : Int32)) Ln ∧ inR (v5 + (5 : Int32)) Ln ∧ inR (v5 + (6 : Int32)) Ln
theorem W_addPitch {k28 : Int32 → Mem → Option Int32} {fl : Nat} (hfl : 1000 ≤ fl) {xs : Nat → Int32} {Ln : Nat} {v5 : Int32} {s : Mem} (hI : Inv s) (hr : inS v5 Ln) (hk : ∀ s', Inv s' → k28 (v5 + (7 : Int32)) s' = some 1) : B_L_law_192 k28 fl xs Ln v5 s = some 1 := by
  obtain ⟨h1, h2, h3, h4, h5, h6⟩ := hr
  obtain ⟨k, s1, v, s2, e1, e2, e3, e4, e5⟩ := LI_addPitch (fl := fl) hfl hI (xs (v5 + (1 : Int32)).toNatClampNeg) (xs (v5 + (2 : Int32)).toNatClampNeg) (xs (v5 + (3 : Int32)).toNatClampNeg) (xs (v5 + (4 : Int32)).toNatClampNeg)
  unfold B_L_law_192
  rw [gd_t h1, gd_t h2, gd_t h3, gd_t h4, e1, bd_some]
  dsimp only
  rw [gd_t h1, gd_t h2, gd_t h3, gd_t h4, e2, bd_some]
  exact tlA e3 e4 (hk s2 e5)
theorem W_pitch {k28 : Int32 → Mem → Option Int32} {fl : Nat} (hfl : 1000 ≤ fl) {xs : Nat → Int32} {Ln : Nat} {v5 : Int32} {s : Mem} (hI : Inv s) (hr : inS v5 Ln) (hk : ∀ s', Inv s' → k28 (v5 + (7 : Int32)) s' = some 1) : B_L_law_284 k28 fl xs Ln v5 s = some 1 := by
  obtain ⟨h1, h2, h3, h4, h5, h6⟩ := hr
  obtain ⟨k, s1, v, s2, e1, e2, e3, e4, e5⟩ := LI_pitch (fl := fl) hfl hI (xs (v5 + (1 : Int32)).toNatClampNeg) (xs (v5 + (2 : Int32)).toNatClampNeg)
  unfold B_L_law_284
  rw [gd_t h1, gd_t h2, e1, bd_some]
  dsimp only
  rw [gd_t h1, gd_t h2, e2, bd_some]
  exact tlA e3 e4 (hk s2 e5)
theorem W_setLimit {k28 : Int32 → Mem → Option Int32} {fl : Nat} (hfl : 1000 ≤ fl) {xs : Nat → Int32} {Ln : Nat} {v5 : Int32} {s : Mem} (hI : Inv s) (hr : inS v5 Ln) (hk : ∀ s', Inv s' → k28 (v5 + (7 : Int32)) s' = some 1) : B_L_law_352 k28 fl xs Ln v5 s = some 1 := by
  obtain ⟨h1, h2, h3, h4, h5, h6⟩ := hr
  obtain ⟨k, s1, v, s2, e1, e2, e3, e4, e5⟩ := LI_setLimit (fl := fl) hfl hI (xs (v5 + (1 : Int32)).toNatClampNeg) (xs (v5 + (2 : Int32)).toNatClampNeg)
  unfold B_L_law_352
  rw [gd_t h1, gd_t h2, e1, bd_some]
  dsimp only
  rw [gd_t h1, gd_t h2, e2, bd_some]
  exact tlA e3 e4 (hk s2 e5)
theorem W_setRate {k28 : Int32 → Mem → Option Int32} {fl : Nat} (hfl : 1000 ≤ fl) {xs : Nat → Int32} {Ln : Nat} {v5 : Int32} {s : Mem} (hI : Inv s) (hr : inS v5 Ln) (hk : ∀ s', Inv s' → k28 (v5 + (7 : Int32)) s' = some 1) : B_L_law_420 k28 fl xs Ln v5 s = some 1 := by
  obtain ⟨h1, h2, h3, h4, h5, h6⟩ := hr
  obtain ⟨k, s1, v, s2, e1, e2, e3, e4, e5⟩ := LI_setRate (fl := fl) hfl hI (xs (v5 + (1 : Int32)).toNatClampNeg) (xs (v5 + (2 : Int32)).toNatClampNeg)
  unfold B_L_law_420
  rw [gd_t h1, gd_t h2, e1, bd_some]
  dsimp only
  rw [gd_t h1, gd_t h2, e2, bd_some]
  exact tlA e3 e4 (hk s2 e5)
theorem W_setGap {k28 : Int32 → Mem → Option Int32} {fl : Nat} (hfl : 1000 ≤ fl) {xs : Nat → Int32} {Ln : Nat} {v5 : Int32} {s : Mem} (hI : Inv s) (hr : inS v5 Ln) (hk : ∀ s', Inv s' → k28 (v5 + (7 : Int32)) s' = some 1) : B_L_law_488 k28 fl xs Ln v5 s = some 1 := by
  obtain ⟨h1, h2, h3, h4, h5, h6⟩ := hr
  obtain ⟨k, s1, v, s2, e1, e2, e3, e4, e5⟩ := LI_setGap (fl := fl) hfl hI (xs (v5 + (1 : Int32)).toNatClampNeg)
  unfold B_L_law_488
  rw [gd_t h1, e1, bd_some]
  dsimp only
  rw [gd_t h1, e2, bd_some]
  exact tlA e3 e4 (hk s2 e5)
theorem W_addSeason {k28 : Int32 → Mem → Option Int32} {fl : Nat} (hfl : 1000 ≤ fl) {xs : Nat → Int32} {Ln : Nat} {v5 : Int32} {s : Mem} (hI : Inv s) (hr : inS v5 Ln) (hk : ∀ s', Inv s' → k28 (v5 + (7 : Int32)) s' = some 1) : B_L_law_544 k28 fl xs Ln v5 s = some 1 := by
  obtain ⟨h1, h2, h3, h4, h5, h6⟩ := hr
  obtain ⟨k, s1, v, s2, e1, e2, e3, e4, e5⟩ := LI_addSeason (fl := fl) hfl hI (xs (v5 + (1 : Int32)).toNatClampNeg) (xs (v5 + (2 : Int32)).toNatClampNeg) (xs (v5 + (3 : Int32)).toNatClampNeg)
  unfold B_L_law_544
  rw [gd_t h1, gd_t h2, gd_t h3, e1, bd_some]
  dsimp only
  rw [gd_t h1, gd_t h2, gd_t h3, e2, bd_some]
  exact tlA e3 e4 (hk s2 e5)
theorem W_dropSeason {k28 : Int32 → Mem → Option Int32} {fl : Nat} (hfl : 1000 ≤ fl) {xs : Nat → Int32} {Ln : Nat} {v5 : Int32} {s : Mem} (hI : Inv s) (hr : inS v5 Ln) (hk : ∀ s', Inv s' → k28 (v5 + (7 : Int32)) s' = some 1) : B_L_law_624 k28 fl xs Ln v5 s = some 1 := by
  obtain ⟨h1, h2, h3, h4, h5, h6⟩ := hr
  obtain ⟨k, s1, v, s2, e1, e2, e3, e4, e5⟩ := LI_dropSeason (fl := fl) hfl hI (xs (v5 + (1 : Int32)).toNatClampNeg)
  unfold B_L_law_624
  rw [gd_t h1, e1, bd_some]
  dsimp only
  rw [gd_t h1, e2, bd_some]
  exact tlA e3 e4 (hk s2 e5)
theorem W_season {k28 : Int32 → Mem → Option Int32} {fl : Nat} (hfl : 1000 ≤ fl) {xs : Nat → Int32} {Ln : Nat} {v5 : Int32} {s : Mem} (hI : Inv s) (hr : inS v5 Ln) (hk : ∀ s', Inv s' → k28 (v5 + (7 : Int32)) s' = some 1) : B_L_law_680 k28 fl xs Ln v5 s = some 1 := by
  obtain ⟨h1, h2, h3, h4, h5, h6⟩ := hr
  obtain ⟨k, s1, v, s2, e1, e2, e3, e4, e5⟩ := LI_season (fl := fl) hI (xs (v5 + (1 : Int32)).toNatClampNeg) (xs (v5 + (2 : Int32)).toNatClampNeg)
  unfold B_L_law_680
  rw [gd_t h1, gd_t h2, e1, bd_some]
  dsimp only
  rw [gd_t h1, gd_t h2, e2, bd_some]
  exact tlA e3 e4 (hk s2 e5)
theorem W_leastStay {k28 : Int32 → Mem → Option Int32} {fl : Nat} (hfl : 1000 ≤ fl) {xs : Nat → Int32} {Ln : Nat} {v5 : Int32} {s : Mem} (hI : Inv s) (hr : inS v5 Ln) (hk : ∀ s', Inv s' → k28 (v5 + (7 : Int32)) s' = some 1) : B_L_law_748 k28 fl xs Ln v5 s = some 1 := by
  obtain ⟨h1, h2, h3, h4, h5, h6⟩ := hr
  obtain ⟨k, s1, v, s2, e1, e2, e3, e4, e5⟩ := LI_leastStay (fl := fl) hfl hI (xs (v5 + (1 : Int32)).toNatClampNeg) (xs (v5 + (2 : Int32)).toNatClampNeg)
  unfold B_L_law_748
  rw [gd_t h1, gd_t h2, e1, bd_some]
  dsimp only
  rw [gd_t h1, gd_t h2, e2, bd_some]
  exact tlA e3 e4 (hk s2 e5)
theorem W_book {k28 : Int32 → Mem → Option Int32} {fl : Nat} (hfl : 1000 ≤ fl) {xs : Nat → Int32} {Ln : Nat} {v5 : Int32} {s : Mem} (hI : Inv s) (hr : inS v5 Ln) (hk : ∀ s', Inv s' → k28 (v5 + (7 : Int32)) s' = some 1) : B_L_law_816 k28 fl xs Ln v5 s = some 1 := by
  obtain ⟨h1, h2, h3, h4, h5, h6⟩ := hr
  obtain ⟨k, s1, v, s2, e1, e2, e3, e4, e5⟩ := LI_book (fl := fl) hfl hI (xs (v5 + (1 : Int32)).toNatClampNeg) (xs (v5 + (2 : Int32)).toNatClampNeg) (xs (v5 + (3 : Int32)).toNatClampNeg) (xs (v5 + (4 : Int32)).toNatClampNeg) (xs (v5 + (5 : Int32)).toNatClampNeg) (xs (v5 + (6 : Int32)).toNatClampNeg)
  unfold B_L_law_816
  rw [gd_t h1, gd_t h2, gd_t h3, gd_t h4, gd_t h5, gd_t h6, e1, bd_some]
  dsimp only
  rw [gd_t h1, gd_t h2, gd_t h3, gd_t h4, gd_t h5, gd_t h6, e2, bd_some]
  exact tlA e3 e4 (hk s2 e5)
theorem W_append {k28 : Int32 → Mem → Option Int32} {fl : Nat} (hfl : 1000 ≤ fl) {xs : Nat → Int32} {Ln : Nat} {v5 : Int32} {s : Mem} (hI : Inv s) (hr : inS v5 Ln) (hk : ∀ s', Inv s' → k28 (v5 + (7 : Int32)) s' = some 1) : B_L_law_934 k28 fl xs Ln v5 s = some 1 := by
  obtain ⟨h1, h2, h3, h4, h5, h6⟩ := hr
  obtain ⟨k, s1, s2, e1, e2, e3, e5⟩ := LM_append (fl := fl) hI ((Int32.toUInt32 (xs (v5 + (1 : Int32)).toNatClampNeg) % 65536).toInt32)
  unfold B_L_law_934 F_X8_thrown
  rw [gd_t h1, e1, bd_some]
  dsimp only
  rw [gd_t h1, e2, bd_some, bd_some, if_pos e3]
  exact hk s2 e5
theorem W_readBooking {k28 : Int32 → Mem → Option Int32} {fl : Nat} (hfl : 1000 ≤ fl) {xs : Nat → Int32} {Ln : Nat} {v5 : Int32} {s : Mem} (hI : Inv s) (hr : inS v5 Ln) (hk : ∀ s', Inv s' → k28 (v5 + (7 : Int32)) s' = some 1) : B_L_law_972 k28 fl xs Ln v5 s = some 1 := by
  obtain ⟨h1, h2, h3, h4, h5, h6⟩ := hr
  obtain ⟨k, s1, v, s2, e1, e2, e3, e4, e5⟩ := LM_readBooking (fl := fl) hfl hI
  unfold B_L_law_972
  rw [e1, bd_some]
  dsimp only
  rw [e2, bd_some]
  exact tlA e3 e4 (hk s2 e5)
theorem W_fault {k28 : Int32 → Mem → Option Int32} {fl : Nat} (hfl : 1000 ≤ fl) {xs : Nat → Int32} {Ln : Nat} {v5 : Int32} {s : Mem} (hI : Inv s) (hr : inS v5 Ln) (hk : ∀ s', Inv s' → k28 (v5 + (7 : Int32)) s' = some 1) : B_L_law_1016 k28 fl xs Ln v5 s = some 1 := by
  obtain ⟨h1, h2, h3, h4, h5, h6⟩ := hr
  obtain ⟨s2, e1, e2, e5⟩ := LM_fault (fl := fl) hI
  unfold B_L_law_1016
  rw [e1, bd_some, e2, bd_some, if_pos rfl]
  exact hk s2 e5
theorem W_refusal {k28 : Int32 → Mem → Option Int32} {fl : Nat} (hfl : 1000 ≤ fl) {xs : Nat → Int32} {Ln : Nat} {v5 : Int32} {s : Mem} (hI : Inv s) (hr : inS v5 Ln) (hk : ∀ s', Inv s' → k28 (v5 + (7 : Int32)) s' = some 1) : B_L_law_1029 k28 fl xs Ln v5 s = some 1 := by
  obtain ⟨h1, h2, h3, h4, h5, h6⟩ := hr
  obtain ⟨k, s1, v, s2, e1, e2, e3, e4, e5⟩ := LM_refusal (fl := fl) hI
  unfold B_L_law_1029
  rw [e1, bd_some]
  dsimp only
  rw [e2, bd_some]
  exact tlA e3 e4 (hk s2 e5)
theorem W_party {k28 : Int32 → Mem → Option Int32} {fl : Nat} (hfl : 1000 ≤ fl) {xs : Nat → Int32} {Ln : Nat} {v5 : Int32} {s : Mem} (hI : Inv s) (hr : inS v5 Ln) (hk : ∀ s', Inv s' → k28 (v5 + (7 : Int32)) s' = some 1) : B_L_law_1073 k28 fl xs Ln v5 s = some 1 := by
  obtain ⟨h1, h2, h3, h4, h5, h6⟩ := hr
  obtain ⟨k, s1, v, s2, e1, e2, e3, e4, e5⟩ := LI_party (fl := fl) hI (xs (v5 + (1 : Int32)).toNatClampNeg) (xs (v5 + (2 : Int32)).toNatClampNeg)
  unfold B_L_law_1073
  rw [gd_t h1, gd_t h2, e1, bd_some]
  dsimp only
  rw [gd_t h1, gd_t h2, e2, bd_some]
  exact tlA e3 e4 (hk s2 e5)
theorem W_moves {k28 : Int32 → Mem → Option Int32} {fl : Nat} (hfl : 1000 ≤ fl) {xs : Nat → Int32} {Ln : Nat} {v5 : Int32} {s : Mem} (hI : Inv s) (hr : inS v5 Ln) (hk : ∀ s', Inv s' → k28 (v5 + (7 : Int32)) s' = some 1) : B_L_law_1141 k28 fl xs Ln v5 s = some 1 := by
  obtain ⟨h1, h2, h3, h4, h5, h6⟩ := hr
  obtain ⟨s2, e1, e2, e5⟩ := LM_moves (fl := fl) hI
  unfold B_L_law_1141
  rw [e1, bd_some, e2, bd_some, if_pos rfl]
  exact hk s2 e5
theorem W_moveOf {k28 : Int32 → Mem → Option Int32} {fl : Nat} (hfl : 1000 ≤ fl) {xs : Nat → Int32} {Ln : Nat} {v5 : Int32} {s : Mem} (hI : Inv s) (hr : inS v5 Ln) (hk : ∀ s', Inv s' → k28 (v5 + (7 : Int32)) s' = some 1) : B_L_law_1154 k28 fl xs Ln v5 s = some 1 := by
  obtain ⟨h1, h2, h3, h4, h5, h6⟩ := hr
  obtain ⟨k, s1, v, s2, e1, e2, e3, e4, e5⟩ := LI_moveOf (fl := fl) hI (xs (v5 + (1 : Int32)).toNatClampNeg) (xs (v5 + (2 : Int32)).toNatClampNeg)
  unfold B_L_law_1154
  rw [gd_t h1, gd_t h2, e1, bd_some]
  dsimp only
  rw [gd_t h1, gd_t h2, e2, bd_some]
  exact tlA e3 e4 (hk s2 e5)
theorem W_move {k28 : Int32 → Mem → Option Int32} {fl : Nat} (hfl : 1000 ≤ fl) {xs : Nat → Int32} {Ln : Nat} {v5 : Int32} {s : Mem} (hI : Inv s) (hr : inS v5 Ln) (hk : ∀ s', Inv s' → k28 (v5 + (7 : Int32)) s' = some 1) : B_L_law_1222 k28 fl xs Ln v5 s = some 1 := by
  obtain ⟨h1, h2, h3, h4, h5, h6⟩ := hr
  obtain ⟨k, s1, v, s2, e1, e2, e3, e4, e5⟩ := LI_move (fl := fl) hfl hI (xs (v5 + (1 : Int32)).toNatClampNeg) (xs (v5 + (2 : Int32)).toNatClampNeg)
  unfold B_L_law_1222
  rw [gd_t h1, gd_t h2, e1, bd_some]
  dsimp only
  rw [gd_t h1, gd_t h2, e2, bd_some]
  exact tlA e3 e4 (hk s2 e5)
theorem W_cancel {k28 : Int32 → Mem → Option Int32} {fl : Nat} (hfl : 1000 ≤ fl) {xs : Nat → Int32} {Ln : Nat} {v5 : Int32} {s : Mem} (hI : Inv s) (hr : inS v5 Ln) (hk : ∀ s', Inv s' → k28 (v5 + (7 : Int32)) s' = some 1) : B_L_law_1290 k28 fl xs Ln v5 s = some 1 := by
  obtain ⟨h1, h2, h3, h4, h5, h6⟩ := hr
  obtain ⟨k, s1, v, s2, e1, e2, e3, e4, e5⟩ := LI_cancel (fl := fl) hfl hI (xs (v5 + (1 : Int32)).toNatClampNeg)
  unfold B_L_law_1290
  rw [gd_t h1, e1, bd_some]
  dsimp only
  rw [gd_t h1, e2, bd_some]
  exact tlA e3 e4 (hk s2 e5)
theorem W_advance {k28 : Int32 → Mem → Option Int32} {fl : Nat} (hfl : 1000 ≤ fl) {xs : Nat → Int32} {Ln : Nat} {v5 : Int32} {s : Mem} (hI : Inv s) (hr : inS v5 Ln) (hk : ∀ s', Inv s' → k28 (v5 + (7 : Int32)) s' = some 1) : B_L_law_1346 k28 fl xs Ln v5 s = some 1 := by
  obtain ⟨h1, h2, h3, h4, h5, h6⟩ := hr
  obtain ⟨k, s1, v, s2, e1, e2, e3, e4, e5⟩ := LI_advance (fl := fl) hfl hI (xs (v5 + (1 : Int32)).toNatClampNeg)
  unfold B_L_law_1346
  rw [gd_t h1, e1, bd_some]
  dsimp only
  rw [gd_t h1, e2, bd_some]
  exact tlA e3 e4 (hk s2 e5)
theorem W_tonight {k28 : Int32 → Mem → Option Int32} {fl : Nat} (hfl : 1000 ≤ fl) {xs : Nat → Int32} {Ln : Nat} {v5 : Int32} {s : Mem} (hI : Inv s) (hr : inS v5 Ln) (hk : ∀ s', Inv s' → k28 (v5 + (7 : Int32)) s' = some 1) : B_L_law_1402 k28 fl xs Ln v5 s = some 1 := by
  obtain ⟨h1, h2, h3, h4, h5, h6⟩ := hr
  obtain ⟨s2, e1, e2, e5⟩ := LM_tonight (fl := fl) hI
  unfold B_L_law_1402
  rw [e1, bd_some, e2, bd_some, if_pos rfl]
  exact hk s2 e5
theorem W_obstacle {k28 : Int32 → Mem → Option Int32} {fl : Nat} (hfl : 1000 ≤ fl) {xs : Nat → Int32} {Ln : Nat} {v5 : Int32} {s : Mem} (hI : Inv s) (hr : inS v5 Ln) (hk : ∀ s', Inv s' → k28 (v5 + (7 : Int32)) s' = some 1) : B_L_law_1415 k28 fl xs Ln v5 s = some 1 := by
  obtain ⟨h1, h2, h3, h4, h5, h6⟩ := hr
  obtain ⟨k, s1, v, s2, e1, e2, e3, e4, e5⟩ := LI_obstacle (fl := fl) hfl hI (xs (v5 + (1 : Int32)).toNatClampNeg) (xs (v5 + (2 : Int32)).toNatClampNeg)
  unfold B_L_law_1415
  rw [gd_t h1, gd_t h2, e1, bd_some]
  dsimp only
  rw [gd_t h1, gd_t h2, e2, bd_some]
  exact tlA e3 e4 (hk s2 e5)
theorem W_occupant {k28 : Int32 → Mem → Option Int32} {fl : Nat} (hfl : 1000 ≤ fl) {xs : Nat → Int32} {Ln : Nat} {v5 : Int32} {s : Mem} (hI : Inv s) (hr : inS v5 Ln) (hk : ∀ s', Inv s' → k28 (v5 + (7 : Int32)) s' = some 1) : B_L_law_1483 k28 fl xs Ln v5 s = some 1 := by
  obtain ⟨h1, h2, h3, h4, h5, h6⟩ := hr
  obtain ⟨k, s1, v, s2, e1, e2, e3, e4, e5⟩ := LI_occupant (fl := fl) hfl hI (xs (v5 + (1 : Int32)).toNatClampNeg) (xs (v5 + (2 : Int32)).toNatClampNeg)
  unfold B_L_law_1483
  rw [gd_t h1, gd_t h2, e1, bd_some]
  dsimp only
  rw [gd_t h1, gd_t h2, e2, bd_some]
  exact tlA e3 e4 (hk s2 e5)
theorem W_busyNight {k28 : Int32 → Mem → Option Int32} {fl : Nat} (hfl : 1000 ≤ fl) {xs : Nat → Int32} {Ln : Nat} {v5 : Int32} {s : Mem} (hI : Inv s) (hr : inS v5 Ln) (hk : ∀ s', Inv s' → k28 (v5 + (7 : Int32)) s' = some 1) : B_L_law_1551 k28 fl xs Ln v5 s = some 1 := by
  obtain ⟨h1, h2, h3, h4, h5, h6⟩ := hr
  obtain ⟨k, s1, v, s2, e1, e2, e3, e4, e5⟩ := LI_busyNight (fl := fl) hfl hI (xs (v5 + (1 : Int32)).toNatClampNeg) (xs (v5 + (2 : Int32)).toNatClampNeg)
  unfold B_L_law_1551
  rw [gd_t h1, gd_t h2, e1, bd_some]
  dsimp only
  rw [gd_t h1, gd_t h2, e2, bd_some]
  exact tlA e3 e4 (hk s2 e5)
theorem W_firstFree {k28 : Int32 → Mem → Option Int32} {fl : Nat} (hfl : 1000 ≤ fl) {xs : Nat → Int32} {Ln : Nat} {v5 : Int32} {s : Mem} (hI : Inv s) (hr : inS v5 Ln) (hk : ∀ s', Inv s' → k28 (v5 + (7 : Int32)) s' = some 1) : B_L_law_1619 k28 fl xs Ln v5 s = some 1 := by
  obtain ⟨h1, h2, h3, h4, h5, h6⟩ := hr
  obtain ⟨k, s1, v, s2, e1, e2, e3, e4, e5⟩ := LI_firstFree (fl := fl) hfl hI (xs (v5 + (1 : Int32)).toNatClampNeg) (xs (v5 + (2 : Int32)).toNatClampNeg) (xs (v5 + (3 : Int32)).toNatClampNeg)
  unfold B_L_law_1619
  rw [gd_t h1, gd_t h2, gd_t h3, e1, bd_some]
  dsimp only
  rw [gd_t h1, gd_t h2, gd_t h3, e2, bd_some]
  exact tlA e3 e4 (hk s2 e5)
theorem W_power {k28 : Int32 → Mem → Option Int32} {fl : Nat} (hfl : 1000 ≤ fl) {xs : Nat → Int32} {Ln : Nat} {v5 : Int32} {s : Mem} (hI : Inv s) (hr : inS v5 Ln) (hk : ∀ s', Inv s' → k28 (v5 + (7 : Int32)) s' = some 1) : B_L_law_1699 k28 fl xs Ln v5 s = some 1 := by
  obtain ⟨h1, h2, h3, h4, h5, h6⟩ := hr
  obtain ⟨k, s1, v, s2, e1, e2, e3, e4, e5⟩ := LI_power (fl := fl) hfl hI (xs (v5 + (1 : Int32)).toNatClampNeg) (xs (v5 + (2 : Int32)).toNatClampNeg)
  unfold B_L_law_1699
  rw [gd_t h1, gd_t h2, e1, bd_some]
  dsimp only
  rw [gd_t h1, gd_t h2, e2, bd_some]
  exact tlA e3 e4 (hk s2 e5)
theorem W_peak {k28 : Int32 → Mem → Option Int32} {fl : Nat} (hfl : 1000 ≤ fl) {xs : Nat → Int32} {Ln : Nat} {v5 : Int32} {s : Mem} (hI : Inv s) (hr : inS v5 Ln) (hk : ∀ s', Inv s' → k28 (v5 + (7 : Int32)) s' = some 1) : B_L_law_1767 k28 fl xs Ln v5 s = some 1 := by
  obtain ⟨h1, h2, h3, h4, h5, h6⟩ := hr
  obtain ⟨k, s1, v, s2, e1, e2, e3, e4, e5⟩ := LI_peak (fl := fl) hfl hI (xs (v5 + (1 : Int32)).toNatClampNeg)
  unfold B_L_law_1767
  rw [gd_t h1, e1, bd_some]
  dsimp only
  rw [gd_t h1, e2, bd_some]
  exact tlA e3 e4 (hk s2 e5)
theorem W_gap {k28 : Int32 → Mem → Option Int32} {fl : Nat} (hfl : 1000 ≤ fl) {xs : Nat → Int32} {Ln : Nat} {v5 : Int32} {s : Mem} (hI : Inv s) (hr : inS v5 Ln) (hk : ∀ s', Inv s' → k28 (v5 + (7 : Int32)) s' = some 1) : B_L_law_1823 k28 fl xs Ln v5 s = some 1 := by
  obtain ⟨h1, h2, h3, h4, h5, h6⟩ := hr
  unfold B_L_law_1823
  rw [gd_t h1, gd_t h2, gd_t h3]
  by_cases hz : (xs (v5 + (3 : Int32)).toNatClampNeg) = 0
  · obtain ⟨k, s1, v, s2, e1, e2, e3, e4, e5⟩ := LI_gap (fl := fl) hfl hI (xs (v5 + (1 : Int32)).toNatClampNeg) (xs (v5 + (2 : Int32)).toNatClampNeg) 0
    rw [if_pos hz, e1, bd_some]
    dsimp only
    rw [gd_t h1, gd_t h2, gd_t h3, if_pos hz, e2, bd_some]
    exact tlA e3 e4 (hk s2 e5)
  · obtain ⟨k, s1, v, s2, e1, e2, e3, e4, e5⟩ := LI_gap (fl := fl) hfl hI (xs (v5 + (1 : Int32)).toNatClampNeg) (xs (v5 + (2 : Int32)).toNatClampNeg) 1
    rw [if_neg hz, e1, bd_some]
    dsimp only
    rw [gd_t h1, gd_t h2, gd_t h3, if_neg hz, e2, bd_some]
    exact tlA e3 e4 (hk s2 e5)
theorem W_account {k28 : Int32 → Mem → Option Int32} {fl : Nat} (hfl : 1000 ≤ fl) {xs : Nat → Int32} {Ln : Nat} {v5 : Int32} {s : Mem} (hI : Inv s) (hr : inS v5 Ln) (hk : ∀ s', Inv s' → k28 (v5 + (7 : Int32)) s' = some 1) : B_L_law_1919 k28 fl xs Ln v5 s = some 1 := by
  obtain ⟨h1, h2, h3, h4, h5, h6⟩ := hr
  obtain ⟨k, s1, v, s2, e1, e2, e3, e4, e5⟩ := LI_account (fl := fl) hfl hI (xs (v5 + (1 : Int32)).toNatClampNeg)
  unfold B_L_law_1919
  rw [gd_t h1, e1, bd_some]
  dsimp only
  rw [gd_t h1, e2, bd_some]
  exact tlA e3 e4 (hk s2 e5)
theorem W_share {k28 : Int32 → Mem → Option Int32} {fl : Nat} (hfl : 1000 ≤ fl) {xs : Nat → Int32} {Ln : Nat} {v5 : Int32} {s : Mem} (hI : Inv s) (hr : inS v5 Ln) (hk : ∀ s', Inv s' → k28 (v5 + (7 : Int32)) s' = some 1) : B_L_law_1975 k28 fl xs Ln v5 s = some 1 := by
  obtain ⟨h1, h2, h3, h4, h5, h6⟩ := hr
  obtain ⟨k, s1, v, s2, e1, e2, e3, e4, e5⟩ := LM_share (fl := fl) hfl hI
  unfold B_L_law_1975
  rw [e1, bd_some]
  dsimp only
  rw [e2, bd_some]
  exact tlD e3 e4 (hk s2 e5)
theorem W_undo {k28 : Int32 → Mem → Option Int32} {fl : Nat} (hfl : 1000 ≤ fl) {xs : Nat → Int32} {Ln : Nat} {v5 : Int32} {s : Mem} (hI : Inv s) (hr : inS v5 Ln) (hk : ∀ s', Inv s' → k28 (v5 + (7 : Int32)) s' = some 1) : B_L_law_2040 k28 fl xs Ln v5 s = some 1 := by
  obtain ⟨h1, h2, h3, h4, h5, h6⟩ := hr
  obtain ⟨k, s1, v, s2, e1, e2, e3, e4, e5⟩ := LM_undo (fl := fl) hfl hI
  unfold B_L_law_2040
  rw [e1, bd_some]
  dsimp only
  rw [e2, bd_some]
  exact tlA e3 e4 (hk s2 e5)
theorem W_save {k28 : Int32 → Mem → Option Int32} {fl : Nat} (hfl : 1000 ≤ fl) {xs : Nat → Int32} {Ln : Nat} {v5 : Int32} {s : Mem} (hI : Inv s) (hr : inS v5 Ln) (hk : ∀ s', Inv s' → k28 (v5 + (7 : Int32)) s' = some 1) : B_L_law_2084 k28 fl xs Ln v5 s = some 1 := by
  obtain ⟨h1, h2, h3, h4, h5, h6⟩ := hr
  obtain ⟨s1, s2, e1, e2, e5⟩ := LM_save (fl := fl) hfl hI
  unfold B_L_law_2084
  rw [e1, bd_some, e2, bd_some]
  exact hk s2 e5
theorem W_restore {k28 : Int32 → Mem → Option Int32} {fl : Nat} (hfl : 1000 ≤ fl) {xs : Nat → Int32} {Ln : Nat} {v5 : Int32} {s : Mem} (hI : Inv s) (hr : inS v5 Ln) (hk : ∀ s', Inv s' → k28 (v5 + (7 : Int32)) s' = some 1) : B_L_law_2095 k28 fl xs Ln v5 s = some 1 := by
  obtain ⟨h1, h2, h3, h4, h5, h6⟩ := hr
  obtain ⟨k, s1, s2, e1, e2, e3, e5⟩ := LM_restore (fl := fl) hfl hI
  unfold B_L_law_2095 F_X8_thrown
  rw [e1, bd_some]
  dsimp only
  rw [e2, bd_some, bd_some, if_pos e3]
  exact hk s2 e5
