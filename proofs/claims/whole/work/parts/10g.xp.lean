-- the places of the thirteen are in their bounds
def vT (s : Mem) : Prop := ∀ q, q ≤ 12 → -1 ≤ iI s 342 q ∧ iI s 342 q < 6 ∧ 0 ≤ iI s 343 q ∧ iI s 343 q ≤ 60 ∧ 0 ≤ iI s 344 q ∧ iI s 344 q ≤ 14 ∧ 0 ≤ iI s 345 q ∧ iI s 345 q ≤ 16
def pwS (s : Mem) (c n : Int) (a : Int) (q : Nat) : Int := a + (if 0 ≤ iI s 342 q ∧ iI s 341 (8 + 5 * (iI s 342 q).toNat + 3) = c ∧ iI s 343 q ≤ n ∧ n ≤ iI s 343 q + iI s 344 q - 1 then iI s 345 q else 0)
def pw (s : Mem) (c n : Int) : Int := itr (pwS s c n) 13 0 0
theorem X8_powerL {fl : Nat} {s : Mem} (hs : RO s) (hv : vT s) {c n : Int} (h1 : -2147483648 ≤ c) (h2 : c < 2147483648) (h3 : -2147483648 ≤ n) (h4 : n < 2147483648) : ∀ (m i : Nat) (a : Int) (k : Nat), i + m = 13 → m < k →
    B_X8_powerAt_5 fl s k 340 (oI c) (oI n) (oI a) (oI i) = some (oI (itr (pwS s c n) m i a)) := by
  intro m
  induction m with
  | zero =>
    intro i a k h hk
    obtain ⟨k, rfl⟩ : ∃ k', k = k' + 1 := ⟨k - 1, by omega⟩
    unfold B_X8_powerAt_5
    simp (disch := omega) only [bd_some, nx_eq, xb_r, xb_l, xc_r, xc_l, oI_lit, oI_nI, oI_add, oI_sub, oI_mul, oI_neg, gI_oI, ldA_I, ldA_L, ldO_I, ldO_L, oB_z, oB_o, gd_oB, lgc0n, oI_litN, ← Int.natCast_add, ← Int.natCast_mul, Int.toNat_natCast, if_true, if_false, oI_le, oI_lt, oI_eq, oI_nat, oI_inR, gd_t]
    rw [if_pos (by omega)]
    rfl
  | succ m ih =>
    intro i a k h hk
    obtain ⟨k, rfl⟩ : ∃ k', k = k' + 1 := ⟨k - 1, by omega⟩
    have b := hv i (by omega)
    unfold B_X8_powerAt_5 B_X8_powerAt_80 B_X8_powerAt_81
    show _ = some (oI (itr (pwS s c n) m (i + 1) (pwS s c n a i)))
    by_cases hp : iI s 342 i < 0
    · simp (disch := omega) only [bd_some, nx_eq, xb_r, xb_l, xc_r, xc_l, oI_lit, oI_nI, oI_add, oI_sub, oI_mul, oI_neg, gI_oI, ldA_I, ldA_L, ldO_I, ldO_L, oB_z, oB_o, gd_oB, lgc0n, oI_litN, ← Int.natCast_add, ← Int.natCast_mul, Int.toNat_natCast, if_true, if_false, oI_le, oI_lt, oI_eq, oI_nat, oI_inR, gd_t, ld_340_4 hs]
      rw [if_neg (by omega), if_pos (by omega), show pwS s c n a i = a + 0 from congrArg (a + ·) (if_neg (by omega))]
      exact ih (i + 1) _ k (by omega) (by omega)
    · obtain ⟨p, hpe⟩ : ∃ p : Nat, iI s 342 i = p := ⟨(iI s 342 i).toNat, by omega⟩
      have c0 := iI_lo s 341 (8 + 5 * p + 3)
      have c1 := iI_hi s 341 (8 + 5 * p + 3)
      simp (disch := omega) only [bd_some, nx_eq, xb_r, xb_l, xc_r, xc_l, oI_lit, oI_nI, oI_add, oI_sub, oI_mul, oI_neg, gI_oI, ldA_I, ldA_L, ldO_I, ldO_L, oB_z, oB_o, gd_oB, lgc0n, oI_litN, ← Int.natCast_add, ← Int.natCast_mul, Int.toNat_natCast, if_true, if_false, oI_le, oI_lt, oI_eq, oI_nat, oI_inR, gd_t, ld_340_4 hs, ld_340_5 hs, ld_340_6 hs, ld_340_7 hs, hpe, X8_ofPitch hs, X8_in]
      rw [if_neg (by omega), if_neg (by omega)]
      unfold pwS
      rw [hpe, Int.toNat_natCast]
      repeat' split
      all_goals first
        | exact ih (i + 1) _ k (by omega) (by omega)
        | (exfalso; omega)
theorem X8_powerAt {fl : Nat} (hfl : 1000 ≤ fl) {s : Mem} (hs : RO s) (hv : vT s) {c n : Int} (h1 : -2147483648 ≤ c) (h2 : c < 2147483648) (h3 : -2147483648 ≤ n) (h4 : n < 2147483648) : F_X8_powerAt fl 340 (oI c) (oI n) s = some (oI (pw s c n)) := by
  unfold F_X8_powerAt
  exact X8_powerL hs hv h1 h2 h3 h4 13 0 0 fl rfl (by omega)
theorem pw_bd {s : Mem} (hv : vT s) (c n : Int) : ∀ (m i : Nat) (a : Int), i + m ≤ 13 → a ≤ itr (pwS s c n) m i a ∧ itr (pwS s c n) m i a ≤ a + 16 * m := by
  intro m
  induction m with
  | zero => intro i a _; exact ⟨Int.le_refl _, by show a ≤ a + 16 * ((0 : Nat) : Int); omega⟩
  | succ m ih =>
    intro i a h
    have b := hv i (by omega)
    have e : a ≤ pwS s c n a i ∧ pwS s c n a i ≤ a + 16 := by
      unfold pwS
      split <;> omega
    have h2 := ih (i + 1) (pwS s c n a i) (by omega)
    show a ≤ itr (pwS s c n) m (i + 1) (pwS s c n a i) ∧ itr (pwS s c n) m (i + 1) (pwS s c n a i) ≤ _
    omega
theorem pw_lo {s : Mem} (hv : vT s) (c n : Int) : 0 ≤ pw s c n := (pw_bd hv c n 13 0 0 (by omega)).1
theorem pw_hi {s : Mem} (hv : vT s) (c n : Int) : pw s c n ≤ 208 := (pw_bd hv c n 13 0 0 (by omega)).2
abbrev hpP (s : Mem) (q : Nat) : Prop := iI s 341 (8 + 5 * (iI s 342 q).toNat + 3) < 0 ∨ ∀ j, j < (iI s 344 q).toNat → pw s (iI s 341 (8 + 5 * (iI s 342 q).toNat + 3)) (iI s 343 q + j) ≤ iI s 341 (5 + (iI s 341 (8 + 5 * (iI s 342 q).toNat + 3)).toNat)
theorem X8_hasPowerL {fl : Nat} (hfl : 1000 ≤ fl) {s : Mem} (hs : RO s) (hv : vT s) {q c : Nat} (hq : q ≤ 12) (hc : c < 3) (hsm : iI s 343 q + iI s 344 q ≤ 60) : ∀ (m : Nat) (n : Int) (k : Nat), n + m = iI s 343 q + iI s 344 q → 0 ≤ n → n ≤ 60 → m < k →
    B_X8_hasPower_19 fl s k 340 (oI q) (oI c) (oI n) = some (oB (∀ j : Nat, j < m → pw s c (n + j) ≤ iI s 341 (5 + c))) := by
  have b := hv q hq
  intro m
  induction m with
  | zero =>
    intro n k h h1 h2 hk
    obtain ⟨k, rfl⟩ : ∃ k', k = k' + 1 := ⟨k - 1, by omega⟩
    unfold B_X8_hasPower_19
    simp (disch := omega) only [bd_some, nx_eq, xb_r, xb_l, xc_r, xc_l, oI_lit, oI_nI, oI_add, oI_sub, oI_mul, oI_neg, gI_oI, ldA_I, ldA_L, ldO_I, ldO_L, oB_z, oB_o, gd_oB, lgc0n, oI_litN, ← Int.natCast_add, ← Int.natCast_mul, Int.toNat_natCast, if_true, if_false, oI_le, oI_lt, oI_eq, oI_nat, oI_inR, gd_t, ld_340_5 hs, ld_340_6 hs]
    rw [if_neg (by omega), if_pos (by omega), oB_t (fun j hj => absurd hj (Nat.not_lt_zero j))]
    rfl
  | succ m ih =>
    intro n k h h1 h2 hk
    obtain ⟨k, rfl⟩ : ∃ k', k = k' + 1 := ⟨k - 1, by omega⟩
    have p1 := pw_lo hv c n
    have p2 := pw_hi hv c n
    have l1 := iI_lo s 341 (5 + c)
    have l2 := iI_hi s 341 (5 + c)
    unfold B_X8_hasPower_19
    simp (disch := omega) only [bd_some, nx_eq, xb_r, xb_l, xc_r, xc_l, oI_lit, oI_nI, oI_add, oI_sub, oI_mul, oI_neg, gI_oI, ldA_I, ldA_L, ldO_I, ldO_L, oB_z, oB_o, gd_oB, lgc0n, oI_litN, ← Int.natCast_add, ← Int.natCast_mul, Int.toNat_natCast, if_true, if_false, oI_le, oI_lt, oI_eq, oI_nat, oI_inR, gd_t, ld_340_5 hs, ld_340_6 hs, ld_340_1 hs, X8_powerAt hfl hs hv]
    rw [if_neg (by omega), if_neg (by omega)]
    by_cases hp : pw s c n ≤ iI s 341 (5 + c)
    · rw [if_pos hp]
      have := ih (n + 1) k (by omega) (by omega) (by omega) (by omega)
      rw [show n + ((1 : Nat) : Int) = n + 1 from rfl, this]
      refine sB_cg ⟨fun g j hj => ?_, fun g j hj => ?_⟩
      · rcases Nat.eq_zero_or_pos j with rfl | h0
        · rw [show n + ((0 : Nat) : Int) = n by omega]; exact hp
        · have := g (j - 1) (by omega)
          rwa [show n + 1 + ((j - 1 : Nat) : Int) = n + j by omega] at this
      · have := g (j + 1) (by omega)
        rwa [show n + ((j + 1 : Nat) : Int) = n + 1 + j by omega] at this
    · rw [if_neg hp, oB_f]
      · rfl
      · intro g
        have := g 0 (by omega)
        rw [show n + ((0 : Nat) : Int) = n by omega] at this
        exact hp this
theorem X8_hasPower {fl : Nat} (hfl : 1000 ≤ fl) {s : Mem} (hs : RO s) (hv : vT s) {q : Nat} (hq : q ≤ 12) (ha : 0 ≤ iI s 342 q) (hc : iI s 341 (8 + 5 * (iI s 342 q).toNat + 3) < 3) (hsm : iI s 343 q + iI s 344 q ≤ 60) : F_X8_hasPower fl 340 (oI q) s = some (oB (hpP s q)) := by
  have b := hv q hq
  obtain ⟨p, hpe⟩ : ∃ p : Nat, iI s 342 q = p := ⟨(iI s 342 q).toNat, by omega⟩
  have c0 := iI_lo s 341 (8 + 5 * p + 3)
  unfold F_X8_hasPower
  simp (disch := omega) only [bd_some, nx_eq, xb_r, xb_l, xc_r, xc_l, oI_lit, oI_nI, oI_add, oI_sub, oI_mul, oI_neg, gI_oI, ldA_I, ldA_L, ldO_I, ldO_L, oB_z, oB_o, gd_oB, lgc0n, oI_litN, ← Int.natCast_add, ← Int.natCast_mul, Int.toNat_natCast, if_true, if_false, oI_le, oI_lt, oI_eq, oI_nat, oI_inR, gd_t, ld_340_4 hs, ld_340_5 hs, hpe, X8_ofPitch hs]
  unfold hpP
  rw [hpe, Int.toNat_natCast] at hc ⊢
  by_cases hn : iI s 341 (8 + 5 * p + 3) < 0
  · obtain ⟨k, rfl⟩ : ∃ k', fl = k' + 1 := ⟨fl - 1, by omega⟩
    rw [oB_t (Or.inl hn)]
    unfold B_X8_hasPower_19
    simp (disch := omega) only [bd_some, nx_eq, xb_r, xb_l, xc_r, xc_l, oI_lit, oI_nI, oI_add, oI_sub, oI_mul, oI_neg, gI_oI, ldA_I, ldA_L, ldO_I, ldO_L, oB_z, oB_o, gd_oB, lgc0n, oI_litN, ← Int.natCast_add, ← Int.natCast_mul, Int.toNat_natCast, if_true, if_false, oI_le, oI_lt, oI_eq, oI_nat, oI_inR, gd_t]
    rw [if_pos (by omega)]
  · obtain ⟨c, hce⟩ : ∃ c : Nat, iI s 341 (8 + 5 * p + 3) = c := ⟨(iI s 341 (8 + 5 * p + 3)).toNat, by omega⟩
    rw [hce] at hc ⊢
    rw [Int.toNat_natCast]
    have h9 := X8_hasPowerL hfl hs hv hq (c := c) (by omega) hsm (iI s 344 q).toNat (iI s 343 q) fl (by omega) (by omega) (by omega) (by omega)
    rw [h9]
    exact sB_cg ⟨Or.inr, fun g => g.resolve_left (by omega)⟩
