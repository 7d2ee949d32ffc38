-- the invariant without the text
def InvB (s : Mem) : Prop := RO s ∧ Cst s ∧ Cmp s ∧ (∃ c m, Hist s c m) ∧ Snp s ∧ Rsn s ∧ Lat s
theorem InvB_of {s : Mem} (h : Inv s) : InvB s := ⟨h.1, h.2.1, h.2.2.1, h.2.2.2.1, h.2.2.2.2.1, h.2.2.2.2.2.1, h.2.2.2.2.2.2.1⟩
theorem Inv_of {s : Mem} (h : InvB s) (t : Txt s) : Inv s := ⟨h.1, h.2.1, h.2.2.1, h.2.2.2.1, h.2.2.2.2.1, h.2.2.2.2.2.1, h.2.2.2.2.2.2, t⟩
-- what a call may write beside the text's bytes, and what reading a text writes
def ctC (k j : Nat) : Prop := scC k j ∨ k = 340 ∧ 18 ≤ j
theorem InvB_ct {s s' : Mem} (h : FG s s' ctC) (hI : InvB s) : InvB s' := by
  obtain ⟨hs, h1, h2, ⟨c, m, h3⟩, h4, h5, h6⟩ := hI
  exact ⟨FG_RO h hs, Cst_FG h (by unfold ctC scC; omega) h1, Cmp_FG h (by unfold ctC scC; omega) h2, ⟨c, m, Hist_FG h (by unfold ctC scC; omega) h3⟩, Snp_FG h (by unfold ctC scC; omega) h4, Rsn_FG h (by unfold ctC scC; omega) h5, Lat_FG h (by unfold ctC scC; omega) h6⟩
def bkC (k j : Nat) : Prop := k < 320 ∨ k = 320 ∧ (j = 6 ∨ j = 7) ∨ 321 ≤ k ∧ k ≤ 335 ∨ k = 339
def rbC (k j : Nat) : Prop := k = 340 ∧ j < 18 ∨ 341 ≤ k ∧ k ≤ 348
def bcode : Nat ⊕ Int32 → Int
  | .inl 5 => 3
  | .inl k => k
  | .inr _ => 0
theorem X3_describe {fl : Nat} (s : Mem) {kd ln br pw f n : Int} (a1 : -2147483648 ≤ kd) (a2 : kd < 2147483648) (b1 : -2147483648 ≤ ln) (b2 : ln < 2147483648) (c1 : -2147483648 ≤ br) (c2 : br < 2147483648) (d1 : -2147483648 ≤ pw) (d2 : pw < 2147483648) (e1 : -2147483648 ≤ f) (e2 : f < 2147483648) (f1 : -2147483648 ≤ n) (f2 : n < 2147483648) :
    ∃ s', F_X3_describe fl 322 (oI kd) (oI ln) (oI br) (oI pw) (oI f) (oI n) s = some s' ∧ FG s s' (fun k j => k = 322) ∧ iI s' 322 0 = kd ∧ iI s' 322 1 = ln ∧ iI s' 322 2 = br ∧ iI s' 322 3 = pw ∧ iI s' 322 4 = f ∧ iI s' 322 5 = n ∧ gL s' 322 6 = mI f n ∧ iI s' 322 7 = -1 ∧ iI s' 322 8 = 0 ∧ iI s' 322 9 = 0 ∧ iI s' 322 10 = 0 := by
  obtain ⟨m0, x0, F0, w0⟩ := stI s 322 0 a1 a2
  obtain ⟨m1, x1, F1, w1⟩ := stI m0 322 1 b1 b2
  obtain ⟨m2, x2, F2, w2⟩ := stI m1 322 2 c1 c2
  obtain ⟨m3, x3, F3, w3⟩ := stI m2 322 3 d1 d2
  obtain ⟨m4, x4, F4, w4⟩ := stI m3 322 4 e1 e2
  obtain ⟨m5, x5, F5, w5⟩ := stI m4 322 5 f1 f2
  obtain ⟨m6, x6, F6, w6⟩ := stL m5 322 6 (mI f n)
  obtain ⟨m7, x7, F7, w7⟩ := stI m6 322 7 (v := -1) (by omega) (by omega)
  obtain ⟨m8, x8, F8, w8⟩ := stI m7 322 8 (v := 0) (by omega) (by omega)
  obtain ⟨m9, x9, F9, w9⟩ := stI m8 322 9 (v := 0) (by omega) (by omega)
  obtain ⟨m10, x10, F10, w10⟩ := stI m9 322 10 (v := 0) (by omega) (by omega)
  refine ⟨m10, ?_, FG_trans (FG_mono F0 (by omega)) (FG_trans (FG_mono F1 (by omega)) (FG_trans (FG_mono F2 (by omega)) (FG_trans (FG_mono F3 (by omega)) (FG_trans (FG_mono F4 (by omega)) (FG_trans (FG_mono F5 (by omega)) (FG_trans (FG_mono F6 (by omega)) (FG_trans (FG_mono F7 (by omega)) (FG_trans (FG_mono F8 (by omega)) (FG_trans (FG_mono F9 (by omega)) (FG_mono F10 (by omega))))))))))), ?_, ?_, ?_, ?_, ?_, ?_, ?_, ?_, ?_, ?_, w10⟩
  · unfold F_X3_describe
    rw [nx_eq, x0, nx_eq, x1, nx_eq, x2, nx_eq, x3, nx_eq, x4, nx_eq, x5, X7_stayOf, bd_some, nx_eq, x6, nx_eq, m1_o, x7, nx_eq, show (0 : Int32) = oI 0 from rfl, x8, nx_eq, x9, nx_eq, x10]
  · rw [FG_I F10 (by omega), FG_I F9 (by omega), FG_I F8 (by omega), FG_I F7 (by omega), FG_I F6 (by omega), FG_I F5 (by omega), FG_I F4 (by omega), FG_I F3 (by omega), FG_I F2 (by omega), FG_I F1 (by omega)]; exact w0
  · rw [FG_I F10 (by omega), FG_I F9 (by omega), FG_I F8 (by omega), FG_I F7 (by omega), FG_I F6 (by omega), FG_I F5 (by omega), FG_I F4 (by omega), FG_I F3 (by omega), FG_I F2 (by omega)]; exact w1
  · rw [FG_I F10 (by omega), FG_I F9 (by omega), FG_I F8 (by omega), FG_I F7 (by omega), FG_I F6 (by omega), FG_I F5 (by omega), FG_I F4 (by omega), FG_I F3 (by omega)]; exact w2
  · rw [FG_I F10 (by omega), FG_I F9 (by omega), FG_I F8 (by omega), FG_I F7 (by omega), FG_I F6 (by omega), FG_I F5 (by omega), FG_I F4 (by omega)]; exact w3
  · rw [FG_I F10 (by omega), FG_I F9 (by omega), FG_I F8 (by omega), FG_I F7 (by omega), FG_I F6 (by omega), FG_I F5 (by omega)]; exact w4
  · rw [FG_I F10 (by omega), FG_I F9 (by omega), FG_I F8 (by omega), FG_I F7 (by omega), FG_I F6 (by omega)]; exact w5
  · rw [FG_L F10 (by omega), FG_L F9 (by omega), FG_L F8 (by omega), FG_L F7 (by omega)]; exact w6
  · rw [FG_I F10 (by omega), FG_I F9 (by omega), FG_I F8 (by omega)]; exact w7
  · rw [FG_I F10 (by omega), FG_I F9 (by omega)]; exact w8
  · rw [FG_I F10 (by omega)]; exact w9
-- the greatest obstacle
def mxO (o : Nat → Int) (a : Int) (p : Nat) : Int := if a < o p then o p else a
theorem mxO_bd {o : Nat → Int} (h : ∀ p, 0 ≤ o p ∧ o p ≤ 5) : ∀ (m i : Nat) (a : Int), 1 ≤ a → a ≤ 5 → 1 ≤ itr (mxO o) m i a ∧ itr (mxO o) m i a ≤ 5
  | 0, i, a, h1, h2 => ⟨h1, h2⟩
  | m + 1, i, a, h1, h2 => by
    have b := h i
    show 1 ≤ itr (mxO o) m (i + 1) (mxO o a i) ∧ itr (mxO o) m (i + 1) (mxO o a i) ≤ 5
    refine mxO_bd h m (i + 1) _ ?_ ?_
    · unfold mxO; split <;> omega
    · unfold mxO; split <;> omega
theorem obT_bd (M : Mem) (t : Nat → Int) (kd ln br : Int) (p : Nat) : 0 ≤ obT M t kd ln br p ∧ obT M t kd ln br p ≤ 5 := by
  unfold obT
  repeat' split
  all_goals omega
theorem X1_greatestL {fl : Nat} (hfl : 1000 ≤ fl) {S M : Mem} (hB : PB S M) : ∀ (m i : Nat) (a : Int) (k : Nat), iI S 341 0 = ((i + m : Nat) : Int) → m < k → 1 ≤ a → a ≤ 5 →
    B_X1_greatestObstacle_4 fl S k 0 322 (oI a) (oI i) = some (oI (itr (mxO (obT M (iI M 342) (iI S 322 0) (iI S 322 1) (iI S 322 2))) m i a)) := by
  have hB' := hB
  obtain ⟨hs, hcs, hv, hc, hL, hF, m3, m4, m5, m6, m7⟩ := hB'
  have bn := VRn hv
  unfold VN at bn
  intro m
  induction m with
  | zero =>
    intro i a k h hk h1 h2
    obtain ⟨k, rfl⟩ : ∃ k', k = k' + 1 := ⟨k - 1, by omega⟩
    unfold B_X1_greatestObstacle_4
    rw [show gI S 0 1 = oI (i : Int) from by rw [gI_oI, c_pc hc, h]; rfl, if_pos (by rw [oI_le (by omega) (by omega) (by omega) (by omega)]; omega)]
    rfl
  | succ m ih =>
    intro i a k h hk h1 h2
    obtain ⟨k, rfl⟩ : ∃ k', k = k' + 1 := ⟨k - 1, by omega⟩
    have ob := X1_obstacleOf (fl := fl) hfl hs hc hv hF (w := 322) (p := i) (x := -1) hL (by omega) (by omega) (by omega) m3.symm m4.symm m5.symm (by rw [m6, m3, m4]) (by rw [m4]; exact m7) rfl rfl rfl
    have bo := obT_bd M (iI M 342) (iI S 322 0) (iI S 322 1) (iI S 322 2) i
    have e : F_J9_max_7cf53 fl (oI a) (oI (obT M (iI M 342) (iI S 322 0) (iI S 322 1) (iI S 322 2) i)) S = some (oI (mxO (obT M (iI M 342) (iI S 322 0) (iI S 322 1) (iI S 322 2)) a i)) := by
      unfold F_J9_max_7cf53 mxO
      by_cases hlt : a < obT M (iI M 342) (iI S 322 0) (iI S 322 1) (iI S 322 2) i
      · rw [if_pos hlt, if_pos (by rw [oI_lt (by omega) (by omega) (by omega) (by omega)]; exact hlt)]
      · rw [if_neg hlt, if_neg (by rw [oI_lt (by omega) (by omega) (by omega) (by omega)]; exact hlt)]
    unfold B_X1_greatestObstacle_4
    rw [show gI S 0 1 = oI ((i + (m + 1) : Nat) : Int) from by rw [gI_oI, c_pc hc, h], if_neg (by rw [oI_le (by omega) (by omega) (by omega) (by omega)]; omega), m1_o, ob, bd_some, e, bd_some, show oI (i : Int) + 1 = oI ((i + 1 : Nat) : Int) from by rw [oI_lit, oI_add]; rfl]
    refine (ih (i + 1) _ k (by rw [h]; congr 1; omega) (by omega) ?_ ?_).trans rfl
    · unfold mxO; split <;> omega
    · unfold mxO; split <;> omega
theorem X8_greatestL {fl : Nat} (hfl : 1000 ≤ fl) {M : Mem} (hM : MB M) (h12 : iI M 342 12 = -1) {kd ln br : Int} (b1 : -2147483648 ≤ kd) (b2 : kd < 2147483648) (b3 : -2147483648 ≤ ln) (b4 : ln < 2147483648) (b5 : -2147483648 ≤ br) (b6 : br < 2147483648) : ∀ (m i : Nat) (a : Int) (s : Mem) (k : Nat), iI M 341 0 = ((i + m : Nat) : Int) → m < k → 1 ≤ a → a ≤ 5 → RO s → AG M s → (∀ q, q ≤ 12 → iI s 342 q = iI M 342 q) → iI s 340 14 = a →
    ∃ s', B_X8_book_181 fl k 340 (oI kd) (oI ln) (oI br) (oI i) s = some (0, s') ∧ FI s s' (fun k j => k = 340 ∧ j = 14) ∧ iI s' 340 14 = itr (mxO (obT M (iI M 342) kd ln br)) m i a := by
  have hM' := hM
  obtain ⟨hv, hF, hn1, hpl⟩ := hM'
  have bn := VRn hv
  unfold VN at bn
  have b12 := hF 12 (by omega)
  intro m
  induction m with
  | zero =>
    intro i a s k h hk h1 h2 hs ag e42 e14
    obtain ⟨k, rfl⟩ : ∃ k', k = k' + 1 := ⟨k - 1, by omega⟩
    refine ⟨s, ?_, FI_refl _ _, e14⟩
    unfold B_X8_book_181
    rw [ld_340_1 hs, bd_some, gd_t (by decide)]
    dsimp only
    rw [show gI s 341 (0 : Int32).toNatClampNeg = oI (iI M 341 0) from by rw [gI_oI]; exact congrArg oI (ag.1 0), if_pos (by rw [oI_le (by omega) (by omega) (by omega) (by omega)]; omega)]
  | succ m ih =>
    intro i a s k h hk h1 h2 hs ag e42 e14
    obtain ⟨k, rfl⟩ : ∃ k', k = k' + 1 := ⟨k - 1, by omega⟩
    have dp := VRp hv (p := i) (by omega)
    unfold VP at dp
    have hFs := vF_cg ag hF
    have a12 := ag.2 12 (by omega)
    have ob := X8_obstacleOf (fl := fl) hfl hs (vT_of hFs (fun q hq => by rw [e42 q hq]; have := hpl q hq; omega)) (VR_vS (by rw [show iI s 341 = iI M 341 from funext ag.1]; exact hv)) (by rw [ag.1]; omega) (by rw [ag.1]; omega) (by rw [ag.1]; omega) (by rw [ag.1]; omega) (by rw [e42 12 (by omega)]; exact h12) (by rw [a12.1]; omega) (by rw [a12.1, a12.2.1]; omega) (p := i) (by omega) (by rw [ag.1]; omega) b1 b2 b3 b4 b5 b6
    rw [obX_T (by omega), obT_cg ag e42] at ob
    have bo := obT_bd M (iI M 342) kd ln br i
    obtain ⟨s1, x1, F1, y1⟩ : ∃ s1, pI s 340 14 (oI (mxO (obT M (iI M 342) kd ln br) a i)) = s1 ∧ FI s s1 (fun k j => k = 340 ∧ j = 14) ∧ iI s1 340 14 = mxO (obT M (iI M 342) kd ln br) a i := ⟨_, rfl, FI_p _ _ _ _ ⟨rfl, rfl⟩, iI_pe (by unfold mxO; split <;> omega) (by unfold mxO; split <;> omega)⟩
    have step : B_X8_book_181 fl (k + 1) 340 (oI kd) (oI ln) (oI br) (oI i) s = B_X8_book_181 fl k 340 (oI kd) (oI ln) (oI br) (oI ((i + 1 : Nat) : Int)) s1 := by
      conv => lhs; unfold B_X8_book_181 B_X8_book_222
      rw [ld_340_1 hs, bd_some, gd_t (by decide)]
      dsimp only
      rw [show gI s 341 (0 : Int32).toNatClampNeg = oI (iI M 341 0) from by rw [gI_oI]; exact congrArg oI (ag.1 0), if_neg (by rw [oI_le (by omega) (by omega) (by omega) (by omega)]; omega), ob, bd_some, show oI (i : Int) + 1 = oI ((i + 1 : Nat) : Int) from by rw [oI_lit, oI_add]; rfl]
      dsimp only
      rw [show gI s 340 14 = oI a from by rw [gI_oI, e14], nx_eq, nx_eq]
      by_cases hlt : a < obT M (iI M 342) kd ln br i
      · rw [if_neg (by rw [oI_le (by omega) (by omega) (by omega) (by omega)]; omega), ← x1]
        unfold mxO
        rw [if_pos hlt]
      · rw [if_pos (by rw [oI_le (by omega) (by omega) (by omega) (by omega)]; omega), ← x1]
        unfold mxO
        rw [if_neg hlt]
    obtain ⟨s', g1, g2, g3⟩ := ih (i + 1) _ s1 k (by rw [h]; congr 1; omega) (by omega) (by unfold mxO; split <;> omega) (by unfold mxO; split <;> omega) (FI_RO F1 hs) (AG_trans ag (AG_FI F1 (by omega))) (fun q hq => by rw [F1.2 _ _ (by omega)]; exact e42 q hq) y1
    exact ⟨s', step.trans g1, FI_trans F1 g2, g3⟩
