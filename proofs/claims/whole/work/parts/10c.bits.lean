def bt (m : Int64) (n : Nat) : Bool := m.toBitVec.getLsbD n
theorem bt_ext {a b : Int64} (h : ∀ n, n < 64 → bt a n = bt b n) : a = b := Int64.toBitVec_inj.mp (BitVec.eq_of_getLsbD_eq h)
theorem bt_or (a b : Int64) (n : Nat) : bt (a ||| b) n = (bt a n || bt b n) := by unfold bt; rw [Int64.toBitVec_or, BitVec.getLsbD_or]
theorem bt_and (a b : Int64) (n : Nat) : bt (a &&& b) n = (bt a n && bt b n) := by unfold bt; rw [Int64.toBitVec_and, BitVec.getLsbD_and]
theorem bt_zero (n : Nat) : bt 0 n = false := BitVec.getLsbD_zero
theorem bt_m1 : ∀ n, n < 64 → bt (-1) n = true := by decide +kernel
theorem bt_not (a : Int64) {n : Nat} (h : n < 64) : bt (a ^^^ (-1)) n = !bt a n := by
  have h1 := bt_m1 n h
  unfold bt at h1 ⊢
  rw [Int64.toBitVec_xor, BitVec.getLsbD_xor, h1, Bool.xor_true]
theorem bt_big (a : Int64) {n : Nat} (h : 64 ≤ n) : bt a n = false := BitVec.getLsbD_of_ge _ _ h
theorem bt_one : ∀ n, n < 64 → bt 1 n = decide (n = 0) := by decide +kernel
theorem sh_s : ∀ k, k < 64 → ((Int32.toInt64 (oI (k : Nat)) &&& 63).toBitVec.smod 64).toNat = k := by decide +kernel
theorem sh_u : ∀ k, k < 64 → (((Int32.toInt64 (oI (k : Nat))).toUInt64 &&& Int64.toUInt64 63).toBitVec % 64).toNat = k := by decide +kernel
theorem bt_shl (a : Int64) {k n : Nat} (hk : k < 64) (hn : n < 64) : bt (a <<< (Int32.toInt64 (oI k) &&& 63)) n = (decide (k ≤ n) && bt a (n - k)) := by
  unfold bt
  rw [Int64.toBitVec_shiftLeft, BitVec.shiftLeft_eq', sh_s k hk, BitVec.getLsbD_shiftLeft]
  have e1 : decide (n < 64) = true := decide_eq_true hn
  rw [e1, Bool.true_and]
  congr 1
  by_cases h : k ≤ n
  · rw [decide_eq_true h, decide_eq_false (by omega : ¬ n < k)]; rfl
  · rw [decide_eq_false h, decide_eq_true (by omega : n < k)]; rfl
theorem bt_ushr (a : Int64) {k : Nat} (n : Nat) (hk : k < 64) : bt ((Int64.toUInt64 a >>> ((Int32.toInt64 (oI k)).toUInt64 &&& Int64.toUInt64 63)).toInt64) n = bt a (k + n) := by
  unfold bt
  rw [UInt64.toBitVec_toInt64, UInt64.toBitVec_shiftRight]
  rw [show ∀ (x : BitVec 64) (y : BitVec 64), x >>> y = x >>> y.toNat from fun _ _ => rfl, sh_u k hk, BitVec.getLsbD_ushiftRight]
  rfl
theorem bt_sshr (a : Int64) {k : Nat} (hk : k < 64) : bt (a >>> (Int32.toInt64 (oI k) &&& 63)) 0 = bt a k := by
  unfold bt
  rw [Int64.toBitVec_shiftRight]
  rw [show ∀ (x : BitVec 64) (y : BitVec 64), x.sshiftRight' y = x.sshiftRight y.toNat from fun _ _ => rfl, sh_s k hk, BitVec.getLsbD_sshiftRight]
  simp [hk]
theorem and1 (a : Int64) : a &&& 1 = if bt a 0 then 1 else 0 := by
  refine bt_ext fun n hn => ?_
  rw [bt_and, bt_one n hn]
  by_cases h : n = 0
  · subst h
    cases bt a 0 <;> decide
  · rw [decide_eq_false h, Bool.and_false]
    cases bt a 0
    · exact (bt_zero n).symm
    · rw [if_pos rfl, bt_one n hn, decide_eq_false h]
theorem lgc0 (a : Int64) : lg_cmp a 0 = 0 ↔ a = 0 := by
  constructor
  · intro h
    unfold lg_cmp at h
    by_cases h1 : 0 < a
    · rw [if_pos h1] at h; exact absurd h (by decide)
    · rw [if_neg h1] at h
      by_cases h2 : a = 0
      · exact h2
      · rw [if_neg h2] at h; exact absurd h (by decide)
  · intro h; subst h; decide
theorem lgc0n (a : Int64) : lg_cmp a 0 = oI ((0 : Nat) : Int) ↔ a = 0 := lgc0 a
theorem oB_ite (p : Prop) [Decidable p] : (if p then some (oI ((1 : Nat) : Int)) else some (oI ((0 : Nat) : Int))) = some (oB p) := by
  by_cases h : p
  · rw [if_pos h, oB_t h]; rfl
  · rw [if_neg h, oB_f h]; rfl
theorem oB_iten (p : Prop) [Decidable p] : (if p then some (oI ((0 : Nat) : Int)) else some (oI ((1 : Nat) : Int))) = some (oB (¬ p)) := by
  by_cases h : p
  · rw [if_pos h, oB_f (fun q => q h)]; rfl
  · rw [if_neg h, oB_t h]; rfl
theorem bit_s (a : Int64) {k : Nat} (hk : k < 64) : lg_cmp ((a >>> (Int32.toInt64 (oI k) &&& 63)) &&& 1) 0 = 0 ↔ bt a k = false := by
  rw [lgc0, and1, bt_sshr a hk]
  cases bt a k
  · exact ⟨fun _ => rfl, fun _ => rfl⟩
  · exact ⟨fun h => absurd h (by decide), fun h => by cases h⟩
theorem bit_u (a : Int64) {k : Nat} (hk : k < 64) : lg_cmp ((Int64.toUInt64 a >>> ((Int32.toInt64 (oI k)).toUInt64 &&& Int64.toUInt64 63)).toInt64 &&& 1) 0 = 0 ↔ bt a k = false := by
  rw [lgc0, and1, bt_ushr a 0 hk, Nat.add_zero]
  cases bt a k
  · exact ⟨fun _ => rfl, fun _ => rfl⟩
  · exact ⟨fun h => absurd h (by decide), fun h => by cases h⟩
theorem lgc1n (a : Int64) : lg_cmp a 1 = oI ((0 : Nat) : Int) ↔ a = 1 := by
  constructor
  · intro h
    unfold lg_cmp at h
    by_cases h1 : 1 < a
    · rw [if_pos h1] at h; exact absurd h (by decide)
    · rw [if_neg h1] at h
      by_cases h2 : a = 1
      · exact h2
      · rw [if_neg h2] at h; exact absurd h (by decide)
  · intro h; subst h; decide
theorem bit_s1 (a : Int64) {k : Nat} (hk : k < 64) : (a >>> (Int32.toInt64 (oI k) &&& 63)) &&& 1 = 1 ↔ bt a k = true := by
  rw [and1, bt_sshr a hk]
  cases bt a k
  · exact ⟨fun h => absurd h (by decide), fun h => by cases h⟩
  · exact ⟨fun _ => rfl, fun _ => rfl⟩
theorem bit_sz (a : Int64) {k : Nat} (hk : k < 64) : (a >>> (Int32.toInt64 (oI k) &&& 63)) &&& 1 = 0 ↔ bt a k = false := (lgc0 _).symm.trans (bit_s a hk)
theorem bit_uz (a : Int64) {k : Nat} (hk : k < 64) : (Int64.toUInt64 a >>> ((Int32.toInt64 (oI k)).toUInt64 &&& Int64.toUInt64 63)).toInt64 &&& 1 = 0 ↔ bt a k = false := (lgc0 _).symm.trans (bit_u a hk)
theorem bit_v (a : Int64) {k : Nat} (hk : k < 64) : Int64.toInt32 ((a >>> (Int32.toInt64 (oI k) &&& 63)) &&& 1) = oI (if bt a k then 1 else 0) := by
  rw [and1, bt_sshr a hk]
  cases bt a k <;> rfl
def mk (f n : Nat) : Int64 := (((1 : Int64) <<< (Int32.toInt64 (oI n) &&& 63)) - (1 : Int64)) <<< (Int32.toInt64 (oI f) &&& 63)
theorem mk_b : ∀ n, n < 15 → ∀ j, j < 64 → bt (((1 : Int64) <<< (Int32.toInt64 (oI (n : Nat)) &&& 63)) - (1 : Int64)) j = decide (j < n) := by decide +kernel
theorem bt_mk {f n j : Nat} (hf : f ≤ 60) (hn : n ≤ 14) (hfn : f + n ≤ 60) : bt (mk f n) j = decide (f ≤ j ∧ j < f + n) := by
  by_cases hj : j < 64
  · unfold mk
    rw [bt_shl _ (by omega) hj, mk_b n (by omega) (j - f) (by omega)]
    rw [← Bool.decide_and]
    exact decide_eq_decide.mpr ⟨fun h => ⟨h.1, by omega⟩, fun h => ⟨h.1, by omega⟩⟩
  · rw [bt_big _ (by omega)]
    exact (decide_eq_false (by omega)).symm
theorem and_z (a b : Int64) : a &&& b = 0 ↔ ∀ n, n < 64 → ¬ (bt a n = true ∧ bt b n = true) := by
  constructor
  · intro h n hn q
    have := bt_and a b n
    rw [h, bt_zero, q.1, q.2] at this
    cases this
  · intro h
    refine bt_ext fun n hn => ?_
    rw [bt_and, bt_zero]
    have := h n hn
    cases h1 : bt a n <;> cases h2 : bt b n <;> simp_all
