def itr {α : Type} (f : α → Nat → α) : Nat → Nat → α → α
  | 0, _, a => a
  | m + 1, i, a => itr f m (i + 1) (f a i)
theorem itr_cg {α : Type} {f g : α → Nat → α} : ∀ (m i : Nat) (a : α), (∀ a k, i ≤ k → k < i + m → f a k = g a k) → itr f m i a = itr g m i a
  | 0, _, _, _ => rfl
  | m + 1, i, a, h => by
    show itr f m (i + 1) (f a i) = itr g m (i + 1) (g a i)
    rw [h a i (Nat.le_refl _) (by omega), itr_cg m (i + 1) _ (fun a k h1 h2 => h a k (by omega) (by omega))]
theorem itr_id {α : Type} {f : α → Nat → α} : ∀ (m i : Nat) (a : α), (∀ a k, i ≤ k → k < i + m → f a k = a) → itr f m i a = a
  | 0, _, _, _ => rfl
  | m + 1, i, a, h => by
    show itr f m (i + 1) (f a i) = a
    rw [h a i (Nat.le_refl _) (by omega), itr_id m (i + 1) a (fun a k h1 h2 => h a k (by omega) (by omega))]
theorem itr_sp {α : Type} {f : α → Nat → α} : ∀ (m n i : Nat) (a : α), itr f (m + n) i a = itr f n (i + m) (itr f m i a)
  | 0, n, i, a => by rw [Nat.zero_add]; rfl
  | m + 1, n, i, a => by
    rw [show m + 1 + n = (m + n) + 1 by omega]
    show itr f (m + n) (i + 1) (f a i) = itr f n (i + (m + 1)) (itr f m (i + 1) (f a i))
    rw [itr_sp m n (i + 1), show i + 1 + m = i + (m + 1) by omega]
theorem X8_in {fl : Nat} {v a b : Int} {s : Mem} (h1 : -2147483648 ≤ v) (h2 : v < 2147483648) (h3 : -2147483648 ≤ a) (h4 : a < 2147483648) (h5 : -2147483648 ≤ b) (h6 : b < 2147483648) : F_X8_in fl (oI v) (oI a) (oI b) s = some (oB (a ≤ v ∧ v ≤ b)) := by
  unfold F_X8_in
  simp (disch := omega) only [bd_some, nx_eq, xb_r, xb_l, xc_r, xc_l, oI_lit, oI_nI, oI_add, oI_sub, oI_mul, oI_neg, gI_oI, ldA_I, ldA_L, ldO_I, ldO_L, oB_z, oB_o, gd_oB, lgc0n, oI_litN, ← Int.natCast_add, ← Int.natCast_mul, Int.toNat_natCast, if_true, if_false, oI_le, oI_lt, oI_eq, oI_nat, oI_inR, gd_t]
  by_cases h : v < a
  · rw [if_pos h, oB_f (by omega)]; rfl
  · rw [if_neg h]
    by_cases h' : b < v
    · rw [if_pos h', oB_f (by omega)]; rfl
    · rw [if_neg h', oB_t (by omega)]; rfl
theorem X8_of {fl : Nat} {q f : Nat} {s : Mem} (hs : RO s) (hq : q ≤ 12) (hf : f < 10) : F_X8_of fl 340 (oI q) (oI f) s = some (oI (iI s 341 (50 + 10 * q + f))) := by
  unfold F_X8_of
  simp (disch := omega) only [bd_some, nx_eq, xb_r, xb_l, xc_r, xc_l, oI_lit, oI_nI, oI_add, oI_sub, oI_mul, oI_neg, gI_oI, ldA_I, ldA_L, ldO_I, ldO_L, oB_z, oB_o, gd_oB, lgc0n, oI_litN, ← Int.natCast_add, ← Int.natCast_mul, Int.toNat_natCast, if_true, if_false, oI_le, oI_lt, oI_eq, oI_nat, oI_inR, gd_t, ld_340_1 hs]
theorem X8_ofPitch {fl : Nat} {p f : Nat} {s : Mem} (hs : RO s) (hq : p < 6) (hf : f < 5) : F_X8_ofPitch fl 340 (oI p) (oI f) s = some (oI (iI s 341 (8 + 5 * p + f))) := by
  unfold F_X8_ofPitch
  simp (disch := omega) only [bd_some, nx_eq, xb_r, xb_l, xc_r, xc_l, oI_lit, oI_nI, oI_add, oI_sub, oI_mul, oI_neg, gI_oI, ldA_I, ldA_L, ldO_I, ldO_L, oB_z, oB_o, gd_oB, lgc0n, oI_litN, ← Int.natCast_add, ← Int.natCast_mul, Int.toNat_natCast, if_true, if_false, oI_le, oI_lt, oI_eq, oI_nat, oI_inR, gd_t, ld_340_1 hs]
def askS (s : Mem) (f n : Int) (a : Int) (i : Nat) : Int := if iI s 341 (38 + 3 * i) ≤ f + n - 1 ∧ f ≤ iI s 341 (38 + 3 * i + 1) ∧ a < iI s 341 (38 + 3 * i + 2) then iI s 341 (38 + 3 * i + 2) else a
theorem X8_askedL {fl : Nat} {s : Mem} (hs : RO s) {f n : Int} (hf : 0 ≤ f) (hf2 : f < 60) (hn : 0 ≤ n) (hn2 : n < 60) : ∀ (m i : Nat) (a : Int) (k : Nat), iI s 341 2 = ((i + m : Nat) : Int) → i + m ≤ 4 → m < k → 0 ≤ a → a < 100000 → (∀ j, j < 4 → 0 ≤ iI s 341 (38 + 3 * j + 2) ∧ iI s 341 (38 + 3 * j + 2) < 100000) →
    B_X8_asked_5 fl s k 340 (oI f) (oI n) (oI a) (oI i) = some (oI (itr (askS s f n) m i a)) := by
  intro m
  induction m with
  | zero =>
    intro i a k h1 h2 hk ha ha2 hb
    obtain ⟨k, rfl⟩ : ∃ k', k = k' + 1 := ⟨k - 1, by omega⟩
    unfold B_X8_asked_5
    simp (disch := omega) only [bd_some, nx_eq, xb_r, xb_l, xc_r, xc_l, oI_lit, oI_nI, oI_add, oI_sub, oI_mul, oI_neg, gI_oI, ldA_I, ldA_L, ldO_I, ldO_L, oB_z, oB_o, gd_oB, lgc0n, oI_litN, ← Int.natCast_add, ← Int.natCast_mul, Int.toNat_natCast, if_true, if_false, oI_le, oI_lt, oI_eq, oI_nat, oI_inR, gd_t, ld_340_1 hs]
    rw [if_pos (by omega)]
    rfl
  | succ m ih =>
    intro i a k h1 h2 hk ha ha2 hb
    obtain ⟨k, rfl⟩ : ∃ k', k = k' + 1 := ⟨k - 1, by omega⟩
    have b0 := iI_lo s 341 (38 + 3 * i)
    have b1 := iI_hi s 341 (38 + 3 * i)
    have b2 := iI_lo s 341 (38 + 3 * i + 1)
    have b3 := iI_hi s 341 (38 + 3 * i + 1)
    have b4 := hb i (by omega)
    unfold B_X8_asked_5 B_X8_asked_78 B_X8_asked_79
    simp (disch := omega) only [bd_some, nx_eq, xb_r, xb_l, xc_r, xc_l, oI_lit, oI_nI, oI_add, oI_sub, oI_mul, oI_neg, gI_oI, ldA_I, ldA_L, ldO_I, ldO_L, oB_z, oB_o, gd_oB, lgc0n, oI_litN, ← Int.natCast_add, ← Int.natCast_mul, Int.toNat_natCast, if_true, if_false, oI_le, oI_lt, oI_eq, oI_nat, oI_inR, gd_t, ld_340_1 hs]
    rw [if_neg (by omega)]
    show _ = some (oI (itr (askS s f n) m (i + 1) (askS s f n a i)))
    repeat' split
    all_goals first
      | (rw [show askS s f n a i = a from if_neg (by omega)]; exact ih (i + 1) a k (by omega) (by omega) (by omega) ha ha2 hb)
      | (rw [show askS s f n a i = _ from if_pos (by omega)]; exact ih (i + 1) _ k (by omega) (by omega) (by omega) b4.1 b4.2 hb)
theorem X8_fits {fl : Nat} {s : Mem} (hs : RO s) {kd ln br pw : Int} {p : Nat} (hp : p < 6) (h1 : -2147483648 ≤ kd) (h2 : kd < 2147483648) (h3 : -2147483648 ≤ ln) (h4 : ln < 2147483648) (h5 : -2147483648 ≤ br) (h6 : br < 2147483648) (h7 : -2147483648 ≤ pw) (h8 : pw < 2147483648) :
    F_X8_fits fl 340 (oI kd) (oI ln) (oI br) (oI pw) (oI p) s = some (oB (kd ≤ iI s 341 (8 + 5 * p + 0) ∧ (ln ≤ iI s 341 (8 + 5 * p + 1) ∧ br ≤ iI s 341 (8 + 5 * p + 2) ∨ br ≤ iI s 341 (8 + 5 * p + 1) ∧ ln ≤ iI s 341 (8 + 5 * p + 2)) ∧ (pw = 0 ∨ 0 ≤ iI s 341 (8 + 5 * p + 3)))) := by
  have b0 := iI_lo s 341 (8 + 5 * p + 0)
  have b1 := iI_hi s 341 (8 + 5 * p + 0)
  have b2 := iI_lo s 341 (8 + 5 * p + 1)
  have b3 := iI_hi s 341 (8 + 5 * p + 1)
  have b4 := iI_lo s 341 (8 + 5 * p + 2)
  have b5 := iI_hi s 341 (8 + 5 * p + 2)
  have b6 := iI_lo s 341 (8 + 5 * p + 3)
  have b7 := iI_hi s 341 (8 + 5 * p + 3)
  unfold F_X8_fits B_X8_fits_41 B_X8_fits_53
  simp (disch := omega) only [bd_some, nx_eq, xb_r, xb_l, xc_r, xc_l, oI_lit, oI_nI, oI_add, oI_sub, oI_mul, oI_neg, gI_oI, ldA_I, ldA_L, ldO_I, ldO_L, oB_z, oB_o, gd_oB, lgc0n, oI_litN, ← Int.natCast_add, ← Int.natCast_mul, Int.toNat_natCast, if_true, if_false, oI_le, oI_lt, oI_eq, oI_nat, oI_inR, gd_t, X8_ofPitch hs]
  repeat' split
  all_goals first
    | (rw [oB_f (by omega)]; rfl)
    | (rw [oB_t (by omega)]; rfl)
