def sL (k : Int32) (a : Int64) : Int64 := (Int64.toUInt64 a >>> ((Int32.toInt64 k).toUInt64 &&& Int64.toUInt64 63)).toInt64
def a1 (v : Int64) : Int64 := v - (sL 1 v &&& 6148914691236517205)
def a2 (v : Int64) : Int64 := (v &&& 3689348814741910323) + (sL 2 v &&& 3689348814741910323)
def a3 (v : Int64) : Int64 := (v + sL 4 v) &&& 1085102592571150095
def a4 (k : Int32) (v : Int64) : Int64 := v + sL k v
theorem bc_eq (fl : Nat) (v : Int64) (s : Mem) : F_J13_bitCount_95d88 fl v s = some ((Int64.toInt32 (a4 32 (a4 16 (a4 8 (a3 (a2 (a1 v))))))) &&& 127) := rfl
def uN (v : Int64) : Nat := v.toBitVec.toNat
theorem uN_lt (v : Int64) : uN v < 18446744073709551616 := v.toBitVec.isLt
theorem uN_sL (k : Nat) (hk : k < 64) (v : Int64) : uN (sL (oI k) v) = uN v / 2 ^ k := by
  unfold uN sL
  rw [UInt64.toBitVec_toInt64, UInt64.toBitVec_shiftRight]
  rw [show ∀ (x : BitVec 64) (y : BitVec 64), x >>> y = x >>> y.toNat from fun _ _ => rfl, sh_u k hk, BitVec.toNat_ushiftRight, Nat.shiftRight_eq_div_pow]
  rfl
theorem uN_and (a b : Int64) : uN (a &&& b) = uN a &&& uN b := by unfold uN; rw [Int64.toBitVec_and, BitVec.toNat_and]
theorem uN_add (a b : Int64) : uN (a + b) = (uN a + uN b) % 18446744073709551616 := by unfold uN; rw [Int64.toBitVec_add, BitVec.toNat_add]
theorem uN_sub {a b : Int64} (h : uN b ≤ uN a) : uN (a - b) = uN a - uN b := by
  have h1 := uN_lt a
  have h2 := uN_lt b
  unfold uN at *
  rw [Int64.toBitVec_sub, BitVec.toNat_sub]
  omega
def mN (c : Nat) : Nat → Nat
  | 0 => 0
  | n + 1 => 256 * mN c n + c
theorem and_sp (u v m k : Nat) (hv : v < 256) (hk : k < 256) : (256 * u + v) &&& (256 * m + k) = 256 * (u &&& m) + (v &&& k) := by
  have h1 : ((256 * u + v) &&& (256 * m + k)) / 2 ^ 8 = u &&& m := by
    rw [Nat.and_div_two_pow]
    congr 1 <;> omega
  have h2 : ((256 * u + v) &&& (256 * m + k)) % 2 ^ 8 = v &&& k := by
    rw [Nat.and_mod_two_pow]
    congr 1 <;> omega
  omega
theorem mN_s (c n : Nat) : mN c (n + 1) = 256 * mN c n + c := rfl
def n1 (M x : Nat) : Nat := x - ((x / 2) &&& M)
def n2 (M x : Nat) : Nat := (x &&& M) + ((x / 4) &&& M)
def n3 (M x : Nat) : Nat := (x + x / 16) &&& M
theorem n1_b : ∀ c, c < 2 → ∀ b, b < 256 → ((128 * c + b / 2) &&& 85) = (b / 2 &&& 85) := by decide +kernel
theorem n2_b : ∀ c, c < 4 → ∀ b, b < 256 → ((64 * c + b / 4) &&& 51) = (b / 4 &&& 51) := by decide +kernel
theorem n3_b : ∀ c, c < 5 → ∀ b, b < 256 → b % 16 < 5 → b / 16 < 5 → b + b / 16 + 16 * c < 256 ∧ ((b + b / 16 + 16 * c) &&& 15) = n3 15 b := by decide +kernel
theorem n12 : ∀ b, b < 256 → n1 85 b < 256 ∧ n2 51 (n1 85 b) < 256 ∧ n2 51 (n1 85 b) % 16 < 5 ∧ n2 51 (n1 85 b) / 16 < 5 ∧ n3 15 (n2 51 (n1 85 b)) < 9 ∧ n3 15 (n2 51 (n1 85 b)) = b % 2 + b / 2 % 2 + b / 4 % 2 + b / 8 % 2 + b / 16 % 2 + b / 32 % 2 + b / 64 % 2 + b / 128 % 2 := by decide +kernel
theorem n1_s (n x : Nat) : n1 (mN 85 (n + 1)) x = 256 * n1 (mN 85 n) (x / 256) + n1 85 (x % 256) := by
  rw [mN_s]
  unfold n1
  have e : x / 2 = 256 * (x / 256 / 2) + (128 * (x / 256 % 2) + x % 256 / 2) := by omega
  rw [e, and_sp _ _ _ _ (by omega) (by omega), n1_b _ (by omega) _ (by omega)]
  have h1 : (x / 256 / 2 &&& mN 85 n) ≤ x / 256 / 2 := Nat.and_le_left
  have h2 : (x % 256 / 2 &&& 85) ≤ x % 256 / 2 := Nat.and_le_left
  omega
theorem n2_s (n a b : Nat) (hb : b < 256) : n2 (mN 51 (n + 1)) (256 * a + b) = 256 * n2 (mN 51 n) a + n2 51 b := by
  rw [mN_s]
  unfold n2
  have e : (256 * a + b) / 4 = 256 * (a / 4) + (64 * (a % 4) + b / 4) := by omega
  rw [e, and_sp a b _ _ hb (by omega), and_sp (a / 4) (64 * (a % 4) + b / 4) _ _ (by omega) (by omega), n2_b _ (by omega) _ (by omega)]
  omega
theorem n3_s (n a b : Nat) (hb : b < 256) (h1 : b % 16 < 5) (h2 : b / 16 < 5) (h3 : a % 16 < 5) : n3 (mN 15 (n + 1)) (256 * a + b) = 256 * n3 (mN 15 n) a + n3 15 b := by
  have hh := n3_b (a % 16) h3 b hb h1 h2
  rw [mN_s]
  unfold n3 at hh ⊢
  have e : 256 * a + b + (256 * a + b) / 16 = 256 * (a + a / 16) + (b + b / 16 + 16 * (a % 16)) := by omega
  rw [e, and_sp _ _ _ _ hh.1 (by omega), hh.2]
def p8 (b : Nat) : Nat := b % 2 + b / 2 % 2 + b / 4 % 2 + b / 8 % 2 + b / 16 % 2 + b / 32 % 2 + b / 64 % 2 + b / 128 % 2
def fA (n x : Nat) : Nat := n2 (mN 51 n) (n1 (mN 85 n) x)
def fB (n x : Nat) : Nat := n3 (mN 15 n) (fA n x)
theorem fA_s (n x : Nat) : fA (n + 1) x = 256 * fA n (x / 256) + n2 51 (n1 85 (x % 256)) := by
  unfold fA
  rw [n1_s, n2_s _ _ _ (n12 (x % 256) (by omega)).1]
theorem fA_l : ∀ (n x : Nat), fA n x % 16 < 5
  | 0, x => by unfold fA n2 mN; rw [Nat.and_zero, Nat.and_zero]; decide
  | n + 1, x => by
    rw [fA_s]
    have := n12 (x % 256) (by omega)
    omega
theorem fB_s (n x : Nat) : fB (n + 1) x = 256 * fB n (x / 256) + p8 (x % 256) := by
  have h := n12 (x % 256) (by omega)
  unfold fB
  rw [fA_s, n3_s _ _ _ h.2.1 h.2.2.1 h.2.2.2.1 (fA_l n _), h.2.2.2.2.2]
  rfl
theorem fB_0 (x : Nat) : fB 0 x = 0 := by unfold fB n3 mN; rw [Nat.and_zero]
theorem fA_lt : ∀ (n x : Nat), fA n x < 256 ^ n
  | 0, x => by unfold fA n2 mN; rw [Nat.and_zero, Nat.and_zero]; decide
  | n + 1, x => by
    rw [fA_s, Nat.pow_succ]
    have h1 := fA_lt n (x / 256)
    have h2 := (n12 (x % 256) (by omega)).2.1
    omega
theorem fA_hi : ∀ (n x : Nat), fA (n + 1) x < 80 * 256 ^ n
  | 0, x => by
    have h := n12 (x % 256) (by omega)
    have h0 := fA_lt 0 (x / 256)
    rw [fA_s]
    omega
  | n + 1, x => by
    have h := n12 (x % 256) (by omega)
    have h0 := fA_hi n (x / 256)
    rw [fA_s, Nat.pow_succ]
    omega
def cn (v : Int64) : Nat → Nat
  | 0 => 0
  | n + 1 => cn v n + (if bt v n then 1 else 0)
theorem bt_nat (v : Int64) (n : Nat) : (if bt v n then 1 else 0) = uN v / 2 ^ n % 2 := by
  unfold bt uN
  rw [← BitVec.testBit_toNat, Nat.testBit_eq_decide_div_mod_eq]
  have : v.toBitVec.toNat / 2 ^ n % 2 < 2 := Nat.mod_lt _ (by decide)
  by_cases h : v.toBitVec.toNat / 2 ^ n % 2 = 1
  · rw [decide_eq_true h, h]; rfl
  · rw [decide_eq_false h]
    show 0 = _
    omega
theorem cn8 (v : Int64) (k : Nat) : cn v (k + 8) = cn v k + p8 (uN v / 2 ^ k % 256) := by
  have e : cn v (k + 8) = cn v k + (if bt v k then 1 else 0) + (if bt v (k + 1) then 1 else 0) + (if bt v (k + 2) then 1 else 0) + (if bt v (k + 3) then 1 else 0) + (if bt v (k + 4) then 1 else 0) + (if bt v (k + 5) then 1 else 0) + (if bt v (k + 6) then 1 else 0) + (if bt v (k + 7) then 1 else 0) := rfl
  rw [e]
  simp only [bt_nat, Nat.pow_add, ← Nat.div_div_eq_div_mul]
  unfold p8
  omega
theorem dv1 {a : Nat} (Y : Nat) (h : a < 256) : (a + 256 * Y) / 256 = Y := by omega
theorem dv2 {a b : Nat} (Y : Nat) (h : a < 256) (h2 : b < 256) : (a + 256 * (b + 256 * Y)) / 65536 = Y := by omega
theorem dv4 {a b c d : Nat} (Y : Nat) (h : a < 256) (h2 : b < 256) (h3 : c < 256) (h4 : d < 256) : (a + 256 * (b + 256 * (c + 256 * (d + 256 * Y)))) / 4294967296 = Y := by omega
theorem fin8 {b0 b1 b2 b3 b4 b5 b6 b7 z z4 z5 z6 : Nat} (q0 : b0 ≤ 8) (q1 : b1 ≤ 8) (q2 : b2 ≤ 8) (q3 : b3 ≤ 8) (q4 : b4 ≤ 8) (q5 : b5 ≤ 8) (q6 : b6 ≤ 8) (q7 : b7 ≤ 8)
    (hz : z = b0 + 256 * (b1 + 256 * (b2 + 256 * (b3 + 256 * (b4 + 256 * (b5 + 256 * (b6 + 256 * b7)))))))
    (w4 : z4 = (z + z / 256) % 18446744073709551616) (w5 : z5 = (z4 + z4 / 65536) % 18446744073709551616) (w6 : z6 = (z5 + z5 / 4294967296) % 18446744073709551616) : z6 % 128 = b0 + b1 + b2 + b3 + b4 + b5 + b6 + b7 := by
  obtain ⟨Y6, y6⟩ : ∃ Y, Y = b6 + 256 * b7 := ⟨_, rfl⟩
  obtain ⟨Y5, y5⟩ : ∃ Y, Y = b5 + 256 * Y6 := ⟨_, rfl⟩
  obtain ⟨Y4, y4⟩ : ∃ Y, Y = b4 + 256 * Y5 := ⟨_, rfl⟩
  obtain ⟨Y3, y3⟩ : ∃ Y, Y = b3 + 256 * Y4 := ⟨_, rfl⟩
  obtain ⟨Y2, y2⟩ : ∃ Y, Y = b2 + 256 * Y3 := ⟨_, rfl⟩
  obtain ⟨Y1, y1⟩ : ∃ Y, Y = b1 + 256 * Y2 := ⟨_, rfl⟩
  rw [← y6, ← y5, ← y4, ← y3, ← y2, ← y1] at hz
  have l6 : Y6 ≤ 2056 := by clear hz w4 w5 w6; omega
  have l5 : Y5 ≤ 526344 := by clear hz w4 w5 w6 y6; omega
  have l4 : Y4 ≤ 134744072 := by clear hz w4 w5 w6 y6 y5; omega
  have l3 : Y3 ≤ 34494482440 := by clear hz w4 w5 w6 y6 y5 y4; omega
  have l2 : Y2 ≤ 8830587504648 := by clear hz w4 w5 w6 y6 y5 y4 y3; omega
  have l1 : Y1 ≤ 2260630401189896 := by clear hz w4 w5 w6 y6 y5 y4 y3 y2; omega
  have l0 : z ≤ 578721382704613384 := by clear w4 w5 w6 y6 y5 y4 y3 y2 y1; omega
  have e4 : z4 = (b0 + b1) + 256 * ((b1 + b2) + 256 * (Y2 + Y3)) := by
    rw [w4, hz, dv1 _ (by omega), Nat.mod_eq_of_lt (by clear w4 w5 w6 y6 y5 y4 y3 y2 y1; omega)]
    clear w4 w5 w6 y6 y5 y4 y3 hz
    omega
  have g2 : Y2 + Y3 = (b2 + b3) + 256 * ((b3 + b4) + 256 * (Y4 + Y5)) := by clear w4 w5 w6 y6 hz e4; omega
  have g4 : Y4 + Y5 = (b4 + b5) + 256 * ((b5 + b6) + 256 * (Y6 + b7)) := by clear w4 w5 w6 hz e4 g2 y1 y2 y3; omega
  have e5 : z5 = (b0 + b1 + b2 + b3) + 256 * ((b1 + b2 + b3 + b4) + 256 * ((b2 + b3 + b4 + b5) + 256 * ((b3 + b4 + b5 + b6) + 256 * (Y4 + Y5 + (Y6 + b7))))) := by
    rw [w5, e4, dv2 _ (by omega) (by omega), Nat.mod_eq_of_lt (by clear w4 w5 w6 y6 y5 y4 y3 y2 y1 hz e4 g2 g4; omega)]
    clear w4 w5 w6 y6 y5 y4 y3 y2 y1 hz e4 l0 l1 l2 l3 l4 l5 l6
    omega
  have e6 : z6 = (b0 + b1 + b2 + b3 + (b4 + b5 + b6 + b7)) + 256 * ((b1 + b2 + b3 + b4) + 256 * ((b2 + b3 + b4 + b5) + 256 * ((b3 + b4 + b5 + b6) + 256 * (Y4 + Y5 + (Y6 + b7)))) + (b5 + b6 + b7 + 256 * (b6 + b7 + 256 * b7))) := by
    rw [w6, e5, dv4 _ (by omega) (by omega) (by omega) (by omega), Nat.mod_eq_of_lt (by clear w4 w5 w6 y6 y5 y4 y3 y2 y1 hz e4 g2 g4; omega)]
    clear w4 w5 w6 y5 y4 y3 y2 y1 hz e4 l0 l1 l2 l3 l4 l5 l6
    omega
  rw [e6]
  clear w4 w5 w6 y6 y5 y4 y3 y2 y1 hz e4 e5 e6 g2 g4 l0 l1 l2 l3 l4 l5 l6
  omega
theorem fin32 (z : Int64) : (Int64.toInt32 z) &&& 127 = oI ((uN z % 128 : Nat) : Int) := by
  apply Int32.toBitVec_inj.mp
  apply BitVec.eq_of_toNat_eq
  rw [Int32.toBitVec_and, BitVec.toNat_and, Int64.toBitVec_toInt32]
  have e1 : (BitVec.signExtend 32 z.toBitVec).toNat = uN z % 4294967296 := by
    rw [BitVec.signExtend_eq_setWidth_of_le _ (by decide), BitVec.toNat_setWidth]
    rfl
  rw [e1, show (127 : Int32).toBitVec.toNat = 2 ^ 7 - 1 from rfl, Nat.and_two_pow_sub_one_eq_mod]
  have e2 : (oI ((uN z % 128 : Nat) : Int)).toBitVec.toNat = uN z % 128 := by
    unfold oI
    rw [Int32.toBitVec_ofInt, BitVec.ofInt_natCast, BitVec.toNat_ofNat]
    omega
  rw [e2]
  omega
theorem bc_cn (fl : Nat) (v : Int64) (s : Mem) : F_J13_bitCount_95d88 fl v s = some (oI (cn v 64)) := by
  have c1 : uN 6148914691236517205 = mN 85 8 := by decide +kernel
  have c2 : uN 3689348814741910323 = mN 51 8 := by decide +kernel
  have c3 : uN 1085102592571150095 = mN 15 8 := by decide +kernel
  have c4 : (256 : Nat) ^ 8 = 18446744073709551616 := by decide +kernel
  have u1 : uN (a1 v) = n1 (mN 85 8) (uN v) := by
    have e : uN (sL 1 v &&& 6148914691236517205) = (uN v / 2 &&& mN 85 8) := by
      rw [uN_and, show sL 1 v = sL (oI (1 : Nat)) v from rfl, uN_sL 1 (by decide), c1, Nat.pow_one]
    have hle : (uN v / 2 &&& mN 85 8) ≤ uN v / 2 := Nat.and_le_left
    unfold a1
    rw [uN_sub (by rw [e]; omega), e, n1]
  have hf : ∀ y, (y &&& mN 51 8) + (y / 2 ^ 2 &&& mN 51 8) = n2 (mN 51 8) y := by
    intro y
    rw [n2, show (2 : Nat) ^ 2 = 4 by decide]
  have hg : n2 (mN 51 8) (n1 (mN 85 8) (uN v)) = fA 8 (uN v) := by rw [fA]
  have u2 : uN (a2 (a1 v)) = fA 8 (uN v) := by
    have h0 := fA_lt 8 (uN v)
    rw [c4] at h0
    unfold a2
    rw [uN_add, uN_and, uN_and, show sL 2 (a1 v) = sL (oI (2 : Nat)) (a1 v) from rfl, uN_sL 2 (by decide), u1, c2, hf, hg]
    exact Nat.mod_eq_of_lt h0
  have hb2 : fA 8 (uN v) < 5764607523034234880 := by
    have h := fA_hi 7 (uN v)
    rw [show 80 * 256 ^ 7 = 5764607523034234880 by decide +kernel] at h
    exact h
  have u3 : uN (a3 (a2 (a1 v))) = fB 8 (uN v) := by
    unfold a3
    rw [uN_and, uN_add, show sL 4 (a2 (a1 v)) = sL (oI (4 : Nat)) (a2 (a1 v)) from rfl, uN_sL 4 (by decide), u2, Nat.mod_eq_of_lt (by omega), c3, show (2 : Nat) ^ 4 = 16 by decide, fB, n3]
  have ec : cn v 64 = p8 (uN v % 256) + p8 (uN v / 2 ^ 8 % 256) + p8 (uN v / 2 ^ 16 % 256) + p8 (uN v / 2 ^ 24 % 256) + p8 (uN v / 2 ^ 32 % 256) + p8 (uN v / 2 ^ 40 % 256) + p8 (uN v / 2 ^ 48 % 256) + p8 (uN v / 2 ^ 56 % 256) := by
    rw [cn8 v 56, cn8 v 48, cn8 v 40, cn8 v 32, cn8 v 24, cn8 v 16, cn8 v 8, cn8 v 0, Nat.pow_zero, Nat.div_one]
    rw [cn, Nat.zero_add]
  have hx : fB 8 (uN v) = p8 (uN v % 256) + 256 * (p8 (uN v / 2 ^ 8 % 256) + 256 * (p8 (uN v / 2 ^ 16 % 256) + 256 * (p8 (uN v / 2 ^ 24 % 256) + 256 * (p8 (uN v / 2 ^ 32 % 256) + 256 * (p8 (uN v / 2 ^ 40 % 256) + 256 * (p8 (uN v / 2 ^ 48 % 256) + 256 * p8 (uN v / 2 ^ 56 % 256))))))) := by
    rw [fB_s, fB_s, fB_s, fB_s, fB_s, fB_s, fB_s, fB_s, fB_0]
    simp only [Nat.div_div_eq_div_mul, Nat.mul_zero, Nat.zero_add]
    clear hb2 u1 u2 u3 ec hf hg c1 c2 c3 c4
    simp only [Nat.reduceMul, Nat.reducePow]
    omega
  have hp : ∀ b, p8 b ≤ 8 := fun b => by unfold p8; omega
  have q0 := hp (uN v % 256)
  have q1 := hp (uN v / 2 ^ 8 % 256)
  have q2 := hp (uN v / 2 ^ 16 % 256)
  have q3 := hp (uN v / 2 ^ 24 % 256)
  have q4 := hp (uN v / 2 ^ 32 % 256)
  have q5 := hp (uN v / 2 ^ 40 % 256)
  have q6 := hp (uN v / 2 ^ 48 % 256)
  have q7 := hp (uN v / 2 ^ 56 % 256)
  generalize p8 (uN v % 256) = b0 at *
  generalize p8 (uN v / 2 ^ 8 % 256) = b1 at *
  generalize p8 (uN v / 2 ^ 16 % 256) = b2 at *
  generalize p8 (uN v / 2 ^ 24 % 256) = b3 at *
  generalize p8 (uN v / 2 ^ 32 % 256) = b4 at *
  generalize p8 (uN v / 2 ^ 40 % 256) = b5 at *
  generalize p8 (uN v / 2 ^ 48 % 256) = b6 at *
  generalize p8 (uN v / 2 ^ 56 % 256) = b7 at *
  have v4 : ∀ (k : Nat) (hk : k < 64) (y : Int64), uN (a4 (oI k) y) = (uN y + uN y / 2 ^ k) % 18446744073709551616 := by
    intro k hk y
    unfold a4
    rw [uN_add, uN_sL k hk]
  rw [bc_eq, show (32 : Int32) = oI (32 : Nat) from rfl, show (16 : Int32) = oI (16 : Nat) from rfl, show (8 : Int32) = oI (8 : Nat) from rfl]
  have w4 := v4 8 (by decide) (a3 (a2 (a1 v)))
  rw [u3, hx] at w4
  have w5 := v4 16 (by decide) (a4 (oI (8 : Nat)) (a3 (a2 (a1 v))))
  have w6 := v4 32 (by decide) (a4 (oI (16 : Nat)) (a4 (oI (8 : Nat)) (a3 (a2 (a1 v)))))
  generalize a4 (oI (8 : Nat)) (a3 (a2 (a1 v))) = z4 at *
  generalize a4 (oI (16 : Nat)) z4 = z5 at *
  generalize a4 (oI (32 : Nat)) z5 = z6 at *
  have wf : uN z6 % 128 = b0 + b1 + b2 + b3 + b4 + b5 + b6 + b7 := fin8 q0 q1 q2 q3 q4 q5 q6 q7 rfl w4 w5 w6
  rw [ec, ← wf]
  rw [fin32]
