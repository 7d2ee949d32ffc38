def mI (f n : Int) : Int64 := (((1 : Int64) <<< (Int32.toInt64 (oI n) &&& 63)) - (1 : Int64)) <<< (Int32.toInt64 (oI f) &&& 63)
theorem mI_mk (f n : Nat) : mI f n = mk f n := rfl
theorem X8_mask (fl : Nat) (f n : Int) (s : Mem) : F_X8_mask fl (oI f) (oI n) s = some (mI f n) := rfl
theorem X8_isPitch {fl : Nat} {s : Mem} (hs : RO s) {p : Int} (h1 : -2147483648 ≤ p) (h2 : p < 2147483648) (hb : 0 ≤ iI s 341 0) : F_X8_isPitch fl 340 (oI p) s = some (oB (0 ≤ p ∧ p < iI s 341 0)) := by
  have b1 := iI_hi s 341 0
  unfold F_X8_isPitch
  simp (disch := omega) only [bd_some, nx_eq, xb_r, xb_l, xc_r, xc_l, oI_lit, oI_nI, oI_add, oI_sub, oI_mul, oI_neg, gI_oI, ldA_I, ldA_L, ldO_I, ldO_L, oB_z, oB_o, gd_oB, lgc0n, oI_litN, ← Int.natCast_add, ← Int.natCast_mul, Int.toNat_natCast, if_true, if_false, oI_le, oI_lt, oI_eq, oI_nat, oI_inR, gd_t, ld_340_1 hs, X8_in]
  refine sB_cg ?_
  omega
theorem X8_isParty {fl : Nat} {s : Mem} (hs : RO s) {p : Int} (h1 : -2147483648 ≤ p) (h2 : p < 2147483648) (hb : 0 ≤ iI s 341 1) : F_X8_isParty fl 340 (oI p) s = some (oB (0 ≤ p ∧ p < iI s 341 1)) := by
  have b1 := iI_hi s 341 1
  unfold F_X8_isParty
  simp (disch := omega) only [bd_some, nx_eq, xb_r, xb_l, xc_r, xc_l, oI_lit, oI_nI, oI_add, oI_sub, oI_mul, oI_neg, gI_oI, ldA_I, ldA_L, ldO_I, ldO_L, oB_z, oB_o, gd_oB, lgc0n, oI_litN, ← Int.natCast_add, ← Int.natCast_mul, Int.toNat_natCast, if_true, if_false, oI_le, oI_lt, oI_eq, oI_nat, oI_inR, gd_t, ld_340_1 hs, X8_in]
  refine sB_cg ?_
  omega
theorem X8_isNight {fl : Nat} {s : Mem} {p : Int} (h1 : -2147483648 ≤ p) (h2 : p < 2147483648) : F_X8_isNight fl (oI p) s = some (oB (0 ≤ p ∧ p < 60)) := by
  unfold F_X8_isNight
  simp (disch := omega) only [bd_some, nx_eq, xb_r, xb_l, xc_r, xc_l, oI_lit, oI_nI, oI_add, oI_sub, oI_mul, oI_neg, gI_oI, ldA_I, ldA_L, ldO_I, ldO_L, oB_z, oB_o, gd_oB, lgc0n, oI_litN, ← Int.natCast_add, ← Int.natCast_mul, Int.toNat_natCast, if_true, if_false, oI_le, oI_lt, oI_eq, oI_nat, oI_inR, gd_t, X8_in]
  refine sB_cg ?_
  omega
theorem X8_isCircuit {fl : Nat} {s : Mem} {p : Int} (h1 : -2147483648 ≤ p) (h2 : p < 2147483648) : F_X8_isCircuit fl (oI p) s = some (oB (0 ≤ p ∧ p < 3)) := by
  unfold F_X8_isCircuit
  simp (disch := omega) only [bd_some, nx_eq, xb_r, xb_l, xc_r, xc_l, oI_lit, oI_nI, oI_add, oI_sub, oI_mul, oI_neg, gI_oI, ldA_I, ldA_L, ldO_I, ldO_L, oB_z, oB_o, gd_oB, lgc0n, oI_litN, ← Int.natCast_add, ← Int.natCast_mul, Int.toNat_natCast, if_true, if_false, oI_le, oI_lt, oI_eq, oI_nat, oI_inR, gd_t, X8_in]
  refine sB_cg ?_
  omega
def moS (s : Mem) (p w : Int) (a : Int64) (q : Nat) : Int64 := a ||| (if iI s 342 q = p ∧ (q : Int) ≠ w then mI (iI s 343 q) (iI s 344 q) else 0)
theorem X8_maskL {fl : Nat} {s : Mem} (hs : RO s) {p w : Int} (h1 : -2147483648 ≤ p) (h2 : p < 2147483648) (h3 : -2147483648 ≤ w) (h4 : w < 2147483648) : ∀ (m i : Nat) (a : Int64) (k : Nat), i + m = 13 → m < k →
    B_X8_maskOf__5 fl s k 340 (oI p) (oI w) a (oI i) = some (itr (moS s p w) m i a) := by
  intro m
  induction m with
  | zero =>
    intro i a k h hk
    obtain ⟨k, rfl⟩ : ∃ k', k = k' + 1 := ⟨k - 1, by omega⟩
    unfold B_X8_maskOf__5
    simp (disch := omega) only [bd_some, nx_eq, xb_r, xb_l, xc_r, xc_l, oI_lit, oI_nI, oI_add, oI_sub, oI_mul, oI_neg, gI_oI, ldA_I, ldA_L, ldO_I, ldO_L, oB_z, oB_o, gd_oB, lgc0n, oI_litN, ← Int.natCast_add, ← Int.natCast_mul, Int.toNat_natCast, if_true, if_false, oI_le, oI_lt, oI_eq, oI_nat, oI_inR, gd_t, ld_340_4 hs]
    rw [if_pos (by omega)]
    rfl
  | succ m ih =>
    intro i a k h hk
    obtain ⟨k, rfl⟩ : ∃ k', k = k' + 1 := ⟨k - 1, by omega⟩
    have b0 := iI_lo s 342 i
    have b1 := iI_hi s 342 i
    unfold B_X8_maskOf__5 B_X8_maskOf__50 B_X8_maskOf__51
    simp (disch := omega) only [bd_some, nx_eq, xb_r, xb_l, xc_r, xc_l, oI_lit, oI_nI, oI_add, oI_sub, oI_mul, oI_neg, gI_oI, ldA_I, ldA_L, ldO_I, ldO_L, oB_z, oB_o, gd_oB, lgc0n, oI_litN, ← Int.natCast_add, ← Int.natCast_mul, Int.toNat_natCast, if_true, if_false, oI_le, oI_lt, oI_eq, oI_nat, oI_inR, gd_t, ld_340_4 hs, ld_340_5 hs, ld_340_6 hs, X8_mask]
    rw [if_neg (by omega)]
    show _ = some (itr (moS s p w) m (i + 1) (moS s p w a i))
    repeat' split
    all_goals first
      | (rw [show moS s p w a i = a ||| 0 from congrArg (a ||| ·) (if_neg (by omega))]; exact ih (i + 1) _ k (by omega) (by omega))
      | (rw [show moS s p w a i = a ||| mI (iI s 343 i) (iI s 344 i) from congrArg (a ||| ·) (if_pos (by omega))]; exact ih (i + 1) _ k (by omega) (by omega))
def mo (s : Mem) (p w : Int) : Int64 := itr (moS s p w) 13 0 0
theorem X8_maskOf_ {fl : Nat} (hfl : 1000 ≤ fl) {s : Mem} (hs : RO s) {p w : Int} (h1 : -2147483648 ≤ p) (h2 : p < 2147483648) (h3 : -2147483648 ≤ w) (h4 : w < 2147483648) : F_X8_maskOf_ fl 340 (oI p) (oI w) s = some (mo s p w) := by
  unfold F_X8_maskOf_
  exact X8_maskL hs h1 h2 h3 h4 13 0 0 fl rfl (by omega)
theorem X8_maskOf {fl : Nat} (hfl : 1000 ≤ fl) {s : Mem} (hs : RO s) {p : Int} (h1 : -2147483648 ≤ p) (h2 : p < 2147483648) : F_X8_maskOf fl 340 (oI p) s = some (mo s p (-1)) := by
  unfold F_X8_maskOf
  rw [show (-1 : Int32) = oI (-1) from rfl, X8_maskOf_ hfl hs h1 h2 (by omega) (by omega)]
  rfl
theorem X8_isAlone {fl : Nat} (hfl : 1000 ≤ fl) {s : Mem} (hs : RO s) {q : Nat} (hq : q ≤ 12) : F_X8_isAlone fl 340 (oI q) s = some (oB (mo s (iI s 342 q) q &&& mI (iI s 343 q) (iI s 344 q) = 0)) := by
  have b0 := iI_lo s 342 q
  have b1 := iI_hi s 342 q
  unfold F_X8_isAlone
  simp (disch := omega) only [bd_some, nx_eq, xb_r, xb_l, xc_r, xc_l, oI_lit, oI_nI, oI_add, oI_sub, oI_mul, oI_neg, gI_oI, ldA_I, ldA_L, ldO_I, ldO_L, oB_z, oB_o, gd_oB, lgc0n, oI_litN, ← Int.natCast_add, ← Int.natCast_mul, Int.toNat_natCast, if_true, if_false, oI_le, oI_lt, oI_eq, oI_nat, oI_inR, gd_t, ld_340_4 hs, ld_340_5 hs, ld_340_6 hs, X8_mask, X8_maskOf_ hfl hs]
  exact oB_ite _
theorem X8_bitsL {fl : Nat} {s : Mem} {v : Int64} : ∀ (m i k : Nat), i + m = 60 → m < k → B_X8_bits_4 fl s k v (oI (cn v i : Nat)) (oI i) = some (oI (cn v 60 : Nat)) := by
  intro m
  induction m with
  | zero =>
    intro i k h hk
    obtain ⟨k, rfl⟩ : ∃ k', k = k' + 1 := ⟨k - 1, by omega⟩
    unfold B_X8_bits_4
    simp (disch := omega) only [bd_some, nx_eq, xb_r, xb_l, xc_r, xc_l, oI_lit, oI_nI, oI_add, oI_sub, oI_mul, oI_neg, gI_oI, ldA_I, ldA_L, ldO_I, ldO_L, oB_z, oB_o, gd_oB, lgc0n, oI_litN, ← Int.natCast_add, ← Int.natCast_mul, Int.toNat_natCast, if_true, if_false, oI_le, oI_lt, oI_eq, oI_nat, oI_inR, gd_t]
    rw [if_pos (by omega), show i = 60 by omega]
  | succ m ih =>
    intro i k h hk
    obtain ⟨k, rfl⟩ : ∃ k', k = k' + 1 := ⟨k - 1, by omega⟩
    unfold B_X8_bits_4
    rw [bit_v v (by omega)]
    simp (disch := omega) only [bd_some, nx_eq, xb_r, xb_l, xc_r, xc_l, oI_lit, oI_nI, oI_add, oI_sub, oI_mul, oI_neg, gI_oI, ldA_I, ldA_L, ldO_I, ldO_L, oB_z, oB_o, gd_oB, lgc0n, oI_litN, ← Int.natCast_add, ← Int.natCast_mul, Int.toNat_natCast, if_true, if_false, oI_le, oI_lt, oI_eq, oI_nat, oI_inR, gd_t]
    rw [if_neg (by omega), ← ih (i + 1) k (by omega) (by omega), cn]
    congr 2
    cases bt v i <;> rfl
theorem X8_bits {fl : Nat} (hfl : 1000 ≤ fl) {s : Mem} (v : Int64) : F_X8_bits fl v s = some (oI (cn v 60 : Nat)) := by
  unfold F_X8_bits
  exact X8_bitsL 60 0 fl rfl (by omega)
