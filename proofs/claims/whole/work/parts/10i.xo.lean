def gaS (s : Mem) (a : Int) (p : Nat) : Int := a + gN (mo s p (-1)) (iI s 341 4)
theorem X8_gapsOfAllL {fl : Nat} (hfl : 1000 ≤ fl) {s : Mem} (hs : RO s) (hg0 : 0 ≤ iI s 341 4) (hg1 : iI s 341 4 ≤ 5) : ∀ (m i : Nat) (a : Int) (k : Nat), iI s 341 0 = ((i + m : Nat) : Int) → i + m ≤ 6 → m < k →
    B_X8_gapsOfAll_4 fl k 340 (oI a) (oI i) s = some (oI (itr (gaS s) m i a), s) := by
  intro m
  induction m with
  | zero =>
    intro i a k h h2 hk
    obtain ⟨k, rfl⟩ : ∃ k', k = k' + 1 := ⟨k - 1, by omega⟩
    unfold B_X8_gapsOfAll_4
    simp (disch := omega) only [bd_some, nx_eq, xb_r, xb_l, xc_r, xc_l, oI_lit, oI_nI, oI_add, oI_sub, oI_mul, oI_neg, gI_oI, ldA_I, ldA_L, ldO_I, ldO_L, oB_z, oB_o, gd_oB, lgc0n, oI_litN, ← Int.natCast_add, ← Int.natCast_mul, Int.toNat_natCast, if_true, if_false, oI_le, oI_lt, oI_eq, oI_nat, oI_inR, gd_t, ld_340_1 hs]
    rw [if_pos (by omega)]
    rfl
  | succ m ih =>
    intro i a k h h2 hk
    obtain ⟨k, rfl⟩ : ∃ k', k = k' + 1 := ⟨k - 1, by omega⟩
    unfold B_X8_gapsOfAll_4
    simp (disch := omega) only [bd_some, nx_eq, xb_r, xb_l, xc_r, xc_l, oI_lit, oI_nI, oI_add, oI_sub, oI_mul, oI_neg, gI_oI, ldA_I, ldA_L, ldO_I, ldO_L, oB_z, oB_o, gd_oB, lgc0n, oI_litN, ← Int.natCast_add, ← Int.natCast_mul, Int.toNat_natCast, if_true, if_false, oI_le, oI_lt, oI_eq, oI_nat, oI_inR, gd_t, ld_340_1 hs, X8_maskOf hfl hs, X8_gapsOf hfl hs]
    rw [if_neg (by omega)]
    exact ih (i + 1) _ k (by omega) (by omega) (by omega)
def gA (s : Mem) : Int := itr (gaS s) (iI s 341 0).toNat 0 0
theorem X8_gapsOfAll {fl : Nat} (hfl : 1000 ≤ fl) {s : Mem} (hs : RO s) (hg0 : 0 ≤ iI s 341 4) (hg1 : iI s 341 4 ≤ 5) (hp0 : 0 ≤ iI s 341 0) (hp1 : iI s 341 0 ≤ 6) : F_X8_gapsOfAll fl 340 s = some (oI (gA s), s) := by
  unfold F_X8_gapsOfAll
  exact X8_gapsOfAllL hfl hs hg0 hg1 (iI s 341 0).toNat 0 0 fl (by omega) (by omega) (by omega)
def askd (s : Mem) (f n : Int) : Int := itr (askS s f n) (iI s 341 2).toNat 0 1
theorem askS_bd {s : Mem} {f n : Int} (hb : ∀ j, j < 4 → 0 ≤ iI s 341 (38 + 3 * j + 2) ∧ iI s 341 (38 + 3 * j + 2) < 100000) : ∀ (m i : Nat) (a : Int), i + m ≤ 4 → 0 ≤ a → a < 100000 → 0 ≤ itr (askS s f n) m i a ∧ itr (askS s f n) m i a < 100000 := by
  intro m
  induction m with
  | zero => intro i a _ h1 h2; exact ⟨h1, h2⟩
  | succ m ih =>
    intro i a h h1 h2
    have b := hb i (by omega)
    have e : 0 ≤ askS s f n a i ∧ askS s f n a i < 100000 := by
      unfold askS
      split <;> omega
    exact ih (i + 1) _ (by omega) e.1 e.2
-- the seasons are in their bounds
def vS (s : Mem) : Prop := 0 ≤ iI s 341 2 ∧ iI s 341 2 ≤ 4 ∧ ∀ j, j < 4 → 0 ≤ iI s 341 (38 + 3 * j + 2) ∧ iI s 341 (38 + 3 * j + 2) < 100000
theorem askd_bd {s : Mem} (hv : vS s) (f n : Int) : 0 ≤ askd s f n ∧ askd s f n < 100000 := askS_bd hv.2.2 _ 0 1 (by have := hv.1; have := hv.2.1; omega) (by omega) (by omega)
theorem X8_asked {fl : Nat} (hfl : 1000 ≤ fl) {s : Mem} (hs : RO s) (hv : vS s) {f n : Int} (hf : 0 ≤ f) (hf2 : f < 60) (hn : 0 ≤ n) (hn2 : n < 60) : F_X8_asked fl 340 (oI f) (oI n) s = some (oI (askd s f n)) := by
  obtain ⟨h1, h2, h3⟩ := hv
  unfold F_X8_asked
  exact X8_askedL hs hf hf2 hn hn2 (iI s 341 2).toNat 0 1 fl (by omega) (by omega) (by omega) (by omega) (by omega) h3
abbrev slP (s : Mem) : Prop := askd s (iI s 343 12) (iI s 344 12) ≤ iI s 344 12 ∨ (1 ≤ iI s 343 12 ∧ iI s 343 12 + iI s 344 12 < 60 ∧ bt (mo s (iI s 342 12) 12) (iI s 343 12 - 1).toNat = true ∧ bt (mo s (iI s 342 12) 12) (iI s 343 12 + iI s 344 12).toNat = true)
theorem X8_staysLong {fl : Nat} (hfl : 1000 ≤ fl) {s : Mem} (hs : RO s) (hv : vS s) (hf : 0 ≤ iI s 343 12) (hf2 : iI s 343 12 < 60) (hn : 0 ≤ iI s 344 12) (hn2 : iI s 344 12 ≤ 14) : F_X8_staysLong fl 340 s = some (oB (slP s)) := by
  have b := askd_bd hv (iI s 343 12) (iI s 344 12)
  have a0 := iI_lo s 342 12
  have a1 := iI_hi s 342 12
  unfold F_X8_staysLong
  by_cases h0 : askd s (iI s 343 12) (iI s 344 12) ≤ iI s 344 12
  · simp (disch := omega) only [bd_some, nx_eq, xb_r, xb_l, xc_r, xc_l, oI_lit, oI_nI, oI_add, oI_sub, oI_mul, oI_neg, gI_oI, ldA_I, ldA_L, ldO_I, ldO_L, oB_z, oB_o, gd_oB, lgc0n, oI_litN, ← Int.natCast_add, ← Int.natCast_mul, Int.toNat_natCast, if_true, if_false, oI_le, oI_lt, oI_eq, oI_nat, oI_inR, gd_t, ld_340_5 hs, ld_340_6 hs, X8_asked hfl hs hv]
    rw [if_neg (by omega), oB_t (Or.inl h0)]
    rfl
  · by_cases h1 : 1 ≤ iI s 343 12 ∧ iI s 343 12 + iI s 344 12 < 60
    · obtain ⟨x, hx⟩ : ∃ x : Nat, iI s 343 12 - ((1 : Nat) : Int) = x := ⟨(iI s 343 12 - 1).toNat, by omega⟩
      obtain ⟨y, hy⟩ : ∃ y : Nat, iI s 343 12 + iI s 344 12 = y := ⟨(iI s 343 12 + iI s 344 12).toNat, by omega⟩
      have ex : (iI s 343 12 - 1).toNat = x := by omega
      have ey : (iI s 343 12 + iI s 344 12).toNat = y := by omega
      simp (disch := omega) only [bd_some, nx_eq, xb_r, xb_l, xc_r, xc_l, oI_lit, oI_nI, oI_add, oI_sub, oI_mul, oI_neg, gI_oI, ldA_I, ldA_L, ldO_I, ldO_L, oB_z, oB_o, gd_oB, lgc0n, oI_litN, ← Int.natCast_add, ← Int.natCast_mul, Int.toNat_natCast, if_true, if_false, oI_le, oI_lt, oI_eq, oI_nat, oI_inR, gd_t, ld_340_4 hs, ld_340_5 hs, ld_340_6 hs, X8_asked hfl hs hv, X8_maskOf_ hfl hs, X8_isNight, hx, hy, lgc1n, bit_s1]
      rw [if_pos (by omega), if_neg (by omega), if_neg (by omega)]
      rw [show (((12 : Nat) : Int)) = 12 from rfl]
      by_cases c1 : bt (mo s (iI s 342 12) 12) x = true
      · rw [if_pos c1]
        by_cases c2 : bt (mo s (iI s 342 12) 12) y = true
        · rw [if_pos c2, oB_t (Or.inr ⟨h1.1, h1.2, by rw [ex]; exact c1, by rw [ey]; exact c2⟩)]; rfl
        · rw [if_neg c2, oB_f (fun q => c2 (by have := (q.resolve_left h0).2.2.2; rwa [ey] at this))]; rfl
      · rw [if_neg c1, oB_f (fun q => c1 (by have := (q.resolve_left h0).2.2.1; rwa [ex] at this))]; rfl
    · rw [oB_f (fun q => h1 ⟨(q.resolve_left h0).1, (q.resolve_left h0).2.1⟩)]
      simp (disch := omega) only [bd_some, nx_eq, xb_r, xb_l, xc_r, xc_l, oI_lit, oI_nI, oI_add, oI_sub, oI_mul, oI_neg, gI_oI, ldA_I, ldA_L, ldO_I, ldO_L, oB_z, oB_o, gd_oB, lgc0n, oI_litN, ← Int.natCast_add, ← Int.natCast_mul, Int.toNat_natCast, if_true, if_false, oI_le, oI_lt, oI_eq, oI_nat, oI_inR, gd_t, ld_340_4 hs, ld_340_5 hs, ld_340_6 hs, X8_asked hfl hs hv, X8_maskOf_ hfl hs, X8_isNight]
      rw [if_pos (by omega)]
      repeat' split
      all_goals first
        | rfl
        | (exfalso; omega)
