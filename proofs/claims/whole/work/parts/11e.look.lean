theorem sB_t {p : Prop} [Decidable p] (h : p) : some (oI ((1 : Nat) : Int)) = some (oB p) := congrArg some (oB_t h).symm
theorem sB_f {p : Prop} [Decidable p] (h : ¬ p) : some (oI ((0 : Nat) : Int)) = some (oB p) := congrArg some (oB_f h).symm
theorem askd_41 {M M' : Mem} (h : ∀ k, iI M' 341 k = iI M 341 k) (f n : Int) : askd M' f n = askd M f n := by
  unfold askd
  rw [h 2]
  refine itr_cg _ 0 1 fun a k _ _ => ?_
  unfold askS
  rw [h, h, h]
-- what is loaded without w, as the reference's loads lays it
def LT (s M : Mem) (t : Nat → Int) (w : Int) : Prop := (∀ k, iI M 341 k = iI s 341 k) ∧ t 12 = -1 ∧ ∀ q, q < 12 → (ldB s w q → t q = iI s 341 (50 + 10 * q + 6) ∧ iI M 343 q = iI s 341 (50 + 10 * q + 4) ∧ iI M 344 q = iI s 341 (50 + 10 * q + 5) ∧ iI M 345 q = iI s 341 (50 + 10 * q + 3)) ∧ (¬ ldB s w q → t q = -1)
theorem or_z (a : Int64) : a ||| 0 = a := bt_ext fun n _ => by rw [bt_or, bt_zero, Bool.or_false]
def bnF (s : Mem) (p w : Int) (q : Nat) : Int64 := if ldB s w q ∧ iI s 341 (50 + 10 * q + 6) = p then mI (iI s 341 (50 + 10 * q + 4)) (iI s 341 (50 + 10 * q + 5)) else 0
theorem X1_busyNightsL {fl : Nat} {s : Mem} (hs : RO s) (hc : CR s 0 (iI s 341)) (hv : VR (iI s 341)) {p w : Int} (h1 : -2147483648 ≤ p) (h2 : p < 2147483648) (h3 : -2147483648 ≤ w) (h4 : w < 2147483648) : ∀ (m i : Nat) (a : Int64) (k : Nat), iI s 341 1 = ((i + m : Nat) : Int) → m < k →
    B_X1_busyNights_5 fl s k 0 (oI p) (oI w) a (oI i) = some (itr (fun a q => a ||| bnF s p w q) m i a) := by
  have b := VRn hv
  unfold VN at b
  intro m
  induction m with
  | zero =>
    intro i a k h hk
    obtain ⟨k, rfl⟩ : ∃ k', k = k' + 1 := ⟨k - 1, by omega⟩
    unfold B_X1_busyNights_5
    simp (disch := omega) only [bd_some, nx_eq, xb_r, xb_l, xc_r, xc_l, oI_lit, oI_nI, oI_add, oI_sub, oI_mul, oI_neg, gI_oI, ldA_I, ldA_L, ldO_I, ldO_L, oB_z, oB_o, gd_oB, lgc0n, oI_litN, ← Int.natCast_add, ← Int.natCast_mul, Int.toNat_natCast, if_true, if_false, oI_le, oI_lt, oI_eq, oI_nat, oI_inR, gd_t, ld_00 hs, ld_02 hs, ld_04 hs, ld_06 hs, ld_p hs, ld_q hs, ld_s hs, c_pc hc, c_qc hc, c_sc hc, c_tn hc, c_gp hc, c_lm hc, c_p hc, c_s hc, c_q hc, c_q7 hc, c_q8 hc, c_q9 hc, c_q10 hc, c_qL hc]
    rw [if_pos (by omega)]
    rfl
  | succ m ih =>
    intro i a k h hk
    obtain ⟨k, rfl⟩ : ∃ k', k = k' + 1 := ⟨k - 1, by omega⟩
    have d := VRq hv (q := i) (by omega)
    unfold VQ at d
    unfold B_X1_busyNights_5 B_X1_busyNights_47
    simp (disch := omega) only [bd_some, nx_eq, xb_r, xb_l, xc_r, xc_l, oI_lit, oI_nI, oI_add, oI_sub, oI_mul, oI_neg, gI_oI, ldA_I, ldA_L, ldO_I, ldO_L, oB_z, oB_o, gd_oB, lgc0n, oI_litN, ← Int.natCast_add, ← Int.natCast_mul, Int.toNat_natCast, if_true, if_false, oI_le, oI_lt, oI_eq, oI_nat, oI_inR, gd_t, ld_00 hs, ld_02 hs, ld_04 hs, ld_06 hs, ld_p hs, ld_q hs, ld_s hs, c_pc hc, c_qc hc, c_sc hc, c_tn hc, c_gp hc, c_lm hc, c_p hc, c_s hc, c_q hc, c_q7 hc, c_q8 hc, c_q9 hc, c_q10 hc, c_qL hc, X3_isOn]
    rw [if_neg (by omega)]
    show _ = some (itr (fun a q => a ||| bnF s p w q) m (i + 1) (a ||| bnF s p w i))
    by_cases hw : (i : Int) = w
    · rw [if_pos hw, show bnF s p w i = 0 from if_neg (by unfold ldB; omega), or_z]
      exact ih (i + 1) a k (by omega) (by omega)
    · rw [if_neg hw]
      by_cases hq : ldB s w i ∧ iI s 341 (50 + 10 * i + 6) = p
      · rw [if_neg (by unfold ldB at hq; omega), show bnF s p w i = _ from if_pos hq]
        exact ih (i + 1) _ k (by omega) (by omega)
      · rw [if_pos (by unfold ldB at hq; omega), show bnF s p w i = 0 from if_neg hq, or_z]
        exact ih (i + 1) a k (by omega) (by omega)
theorem X1_busyNights {fl : Nat} (hfl : 1000 ≤ fl) {s M : Mem} {t : Nat → Int} (hs : RO s) (hc : CR s 0 (iI s 341)) (hv : VR (iI s 341)) {p w : Int} (hL : LT s M t w) (hF : vF M) (h1 : 0 ≤ p) (h2 : p < 2147483648) (h3 : -2147483648 ≤ w) (h4 : w < 2147483648) : F_X1_busyNights fl 0 (oI p) (oI w) s = some (moT M t p (-1)) := by
  have b := VRn hv
  unfold VN at b
  unfold F_X1_busyNights
  have := X1_busyNightsL (fl := fl) hs hc hv (p := p) (by omega) h2 h3 h4 (iI s 341 1).toNat 0 0 fl (by omega) (by omega)
  rw [show (0 : Int32) = oI ((0 : Nat) : Int) from rfl, this]
  refine congrArg some (bt_ext fun j hj => Bx ?_)
  rw [itr_or (bnF s p w), bt_zero, bt_moT hF]
  constructor
  · rintro (h | ⟨q, g1, g2, g3⟩)
    · cases h
    · unfold bnF at g3
      by_cases hq : ldB s w q ∧ iI s 341 (50 + 10 * q + 6) = p
      · rw [if_pos hq] at g3
        have d := VRq hv (q := q) (by omega)
        unfold VQ at d
        have e := (hL.2.2 q (by omega)).1 hq.1
        rw [bt_mI (by omega) (by omega) (by omega) (by omega)] at g3
        exact ⟨q, by omega, by rw [e.1]; exact hq.2, by omega, by unfold inN; rw [e.2.1, e.2.2.1]; exact g3⟩
      · rw [if_neg hq, bt_zero] at g3
        cases g3
  · rintro ⟨q, g1, g2, g3, g4⟩
    by_cases h12 : q = 12
    · subst h12
      have := hL.2.1
      omega
    · by_cases hB : ldB s w q
      · have e := (hL.2.2 q (by omega)).1 hB
        have d := VRq hv (q := q) hB.1
        unfold VQ at d
        refine Or.inr ⟨q, by omega, by unfold ldB at hB; omega, ?_⟩
        unfold bnF
        rw [if_pos ⟨hB, by rw [← e.1]; exact g2⟩, bt_mI (by omega) (by omega) (by omega) (by omega)]
        unfold inN at g4
        rw [e.2.1, e.2.2.1] at g4
        exact g4
      · have := (hL.2.2 q (by omega)).2 hB
        omega
theorem X7_holdsM {fl : Nat} {s : Mem} {f n x : Int} (h1 : -2147483648 ≤ x) (h2 : x < 2147483648) (hf : 0 ≤ f) (hn : 0 ≤ n) (hn2 : n ≤ 14) (hfn : f + n ≤ 60) : F_X7_holds fl (mI f n) (oI x) s = some (oB (f ≤ x ∧ x < f + n)) := by
  rw [X7_holds _ h1 h2]
  refine sB_cg ⟨fun h => ?_, fun h => ⟨by omega, by omega, (bt_mI hf hn hn2 hfn).mpr (by omega)⟩⟩
  have := (bt_mI hf hn hn2 hfn).mp h.2.2
  omega
def puF (s : Mem) (c n w : Int) (q : Nat) : Int := if ldB s w q ∧ iI s 341 (8 + 5 * (iI s 341 (50 + 10 * q + 6)).toNat + 3) = c ∧ iI s 341 (50 + 10 * q + 4) ≤ n ∧ n < iI s 341 (50 + 10 * q + 4) + iI s 341 (50 + 10 * q + 5) then iI s 341 (50 + 10 * q + 3) else 0
theorem X1_powerUsedL {fl : Nat} {s : Mem} (hs : RO s) (hc : CR s 0 (iI s 341)) (hv : VR (iI s 341)) {c n w : Int} (h1 : -2147483648 ≤ c) (h2 : c < 2147483648) (h3 : -2147483648 ≤ w) (h4 : w < 2147483648) (h5 : 0 ≤ n) (h6 : n < 60) : ∀ (m i : Nat) (a : Int) (k : Nat), iI s 341 1 = ((i + m : Nat) : Int) → m < k →
    B_X1_powerUsed_6 fl s k 0 (oI c) (oI n) (oI w) (oI a) (oI i) = some (oI (itr (fun a q => a + puF s c n w q) m i a)) := by
  have b := VRn hv
  unfold VN at b
  intro m
  induction m with
  | zero =>
    intro i a k h hk
    obtain ⟨k, rfl⟩ : ∃ k', k = k' + 1 := ⟨k - 1, by omega⟩
    unfold B_X1_powerUsed_6
    simp (disch := omega) only [bd_some, nx_eq, xb_r, xb_l, xc_r, xc_l, oI_lit, oI_nI, oI_add, oI_sub, oI_mul, oI_neg, gI_oI, ldA_I, ldA_L, ldO_I, ldO_L, oB_z, oB_o, gd_oB, lgc0n, oI_litN, ← Int.natCast_add, ← Int.natCast_mul, Int.toNat_natCast, if_true, if_false, oI_le, oI_lt, oI_eq, oI_nat, oI_inR, gd_t, ld_00 hs, ld_02 hs, ld_04 hs, ld_06 hs, ld_p hs, ld_q hs, ld_s hs, c_pc hc, c_qc hc, c_sc hc, c_tn hc, c_gp hc, c_lm hc, c_p hc, c_s hc, c_q hc, c_q7 hc, c_q8 hc, c_q9 hc, c_q10 hc, c_qL hc]
    rw [if_pos (by omega)]
    rfl
  | succ m ih =>
    intro i a k h hk
    obtain ⟨k, rfl⟩ : ∃ k', k = k' + 1 := ⟨k - 1, by omega⟩
    have d := VRq hv (q := i) (by omega)
    unfold VQ at d
    obtain ⟨p, hpe⟩ : ∃ p : Nat, iI s 341 (50 + 10 * i + 6) = p := ⟨(iI s 341 (50 + 10 * i + 6)).toNat, by omega⟩
    have dp := VRp hv (p := p) (by omega)
    unfold VP at dp
    have hh := X7_holdsM (fl := fl) (s := s) (f := iI s 341 (50 + 10 * i + 4)) (n := iI s 341 (50 + 10 * i + 5)) (x := n) (by omega) (by omega) (by omega) (by omega) (by omega) (by omega)
    unfold B_X1_powerUsed_6 B_X1_powerUsed_73
    simp (disch := omega) only [bd_some, nx_eq, xb_r, xb_l, xc_r, xc_l, oI_lit, oI_nI, oI_add, oI_sub, oI_mul, oI_neg, gI_oI, ldA_I, ldA_L, ldO_I, ldO_L, oB_z, oB_o, gd_oB, lgc0n, oI_litN, ← Int.natCast_add, ← Int.natCast_mul, Int.toNat_natCast, if_true, if_false, oI_le, oI_lt, oI_eq, oI_nat, oI_inR, gd_t, ld_00 hs, ld_02 hs, ld_04 hs, ld_06 hs, ld_p hs, ld_q hs, ld_s hs, c_pc hc, c_qc hc, c_sc hc, c_tn hc, c_gp hc, c_lm hc, c_p hc, c_s hc, c_q hc, c_q7 hc, c_q8 hc, c_q9 hc, c_q10 hc, c_qL hc, hh, hpe, X1_circuitOf hs hc]
    rw [if_neg (by omega)]
    show _ = some (oI (itr (fun a q => a + puF s c n w q) m (i + 1) (a + puF s c n w i)))
    by_cases hq : ldB s w i ∧ iI s 341 (8 + 5 * (iI s 341 (50 + 10 * i + 6)).toNat + 3) = c ∧ iI s 341 (50 + 10 * i + 4) ≤ n ∧ n < iI s 341 (50 + 10 * i + 4) + iI s 341 (50 + 10 * i + 5)
    · rw [show puF s c n w i = _ from if_pos hq]
      rw [hpe, Int.toNat_natCast] at hq
      unfold ldB at hq
      rw [if_neg (by omega), if_neg (by omega), if_neg (by omega), if_pos (by omega)]
      exact ih (i + 1) _ k (by omega) (by omega)
    · rw [show puF s c n w i = 0 from if_neg hq, Int.add_zero]
      rw [hpe, Int.toNat_natCast] at hq
      unfold ldB at hq
      repeat' split
      all_goals first
        | exact ih (i + 1) a k (by omega) (by omega)
        | (exfalso; omega)
theorem sm_13 {h g : Nat → Int} {m : Nat} (hm : m ≤ 13) (h1 : ∀ q, q < m → h q = g q) (h2 : ∀ q, m ≤ q → q < 13 → h q = 0) : sm h 13 0 = sm g m 0 := by
  rw [show 13 = m + (13 - m) by omega, sm_sp, sm_cg m 0 (fun q _ hq => h1 q (by omega)), sm_z (13 - m) (0 + m) (fun q a b => h2 q (by omega) (by omega))]
  omega
theorem X1_powerUsed {fl : Nat} (hfl : 1000 ≤ fl) {s M : Mem} {t : Nat → Int} (hs : RO s) (hc : CR s 0 (iI s 341)) (hv : VR (iI s 341)) {c n w : Int} (hL : LT s M t w) (h1 : -2147483648 ≤ c) (h2 : c < 2147483648) (h3 : -2147483648 ≤ w) (h4 : w < 2147483648) (h5 : 0 ≤ n) (h6 : n < 60) : F_X1_powerUsed fl 0 (oI c) (oI n) (oI w) s = some (oI (pwT M t c n)) := by
  have b := VRn hv
  unfold VN at b
  unfold F_X1_powerUsed
  have := X1_powerUsedL (fl := fl) hs hc hv h1 h2 h3 h4 h5 h6 (iI s 341 1).toNat 0 0 fl (by omega) (by omega)
  rw [show (0 : Int32) = oI ((0 : Nat) : Int) from rfl]
  refine this.trans (congrArg (fun z => some (oI z)) ?_)
  unfold pwT
  refine (sm_13 (m := (iI s 341 1).toNat) (by omega) ?_ ?_).symm
  · intro q hq
    unfold pwH puF
    by_cases hB : ldB s w q
    · have e := (hL.2.2 q (by omega)).1 hB
      have d := VRq hv (q := q) hB.1
      unfold VQ at d
      rw [e.1, e.2.1, e.2.2.1, e.2.2.2]
      unfold ciM
      rw [hL.1]
      by_cases hx : iI s 341 (8 + 5 * (iI s 341 (50 + 10 * q + 6)).toNat + 3) = c ∧ iI s 341 (50 + 10 * q + 4) ≤ n ∧ n < iI s 341 (50 + 10 * q + 4) + iI s 341 (50 + 10 * q + 5)
      · rw [if_pos ⟨by omega, hx.1, hx.2.1, by omega⟩, if_pos ⟨hB, hx⟩]
      · rw [if_neg (fun z => hx ⟨z.2.1, z.2.2.1, by omega⟩), if_neg (fun z => hx z.2)]
    · have e := (hL.2.2 q (by omega)).2 hB
      rw [if_neg (by omega), if_neg (fun z => hB z.1)]
  · intro q h1 h2
    have e : t q = -1 := by
      by_cases h12 : q = 12
      · subst h12; exact hL.2.1
      · exact (hL.2.2 q (by omega)).2 (by unfold ldB; omega)
    unfold pwH
    rw [if_neg (by omega)]
-- the new one on p
theorem mo_new {M : Mem} {t : Nat → Int} (hF : vF M) (h12 : t 12 = -1) {p : Int} (hp : 0 ≤ p) : moT M (up t 12 p) p 12 = moT M t p (-1) := by
  refine bt_ext fun j _ => Bx ?_
  rw [bt_moT hF, bt_moT hF]
  constructor
  · rintro ⟨q, h1, h2, h3, h4⟩
    rw [up_n (by omega)] at h2
    exact ⟨q, h1, h2, by omega, h4⟩
  · rintro ⟨q, h1, h2, h3, h4⟩
    have : q ≠ 12 := fun z => by subst z; omega
    exact ⟨q, h1, by rw [up_n this]; exact h2, by omega, h4⟩
theorem al_new {M : Mem} {t : Nat → Int} (hF : vF M) (h12 : t 12 = -1) {p : Int} (hp : 0 ≤ p) : alT M (up t 12 p) 12 ↔ moT M t p (-1) &&& mI (iI M 343 12) (iI M 344 12) = 0 := by
  unfold alT
  rw [up_e, show (((12 : Nat) : Int)) = 12 from rfl, mo_new hF h12 hp]
theorem pw_new {M : Mem} {t : Nat → Int} (h12 : t 12 = -1) {p n : Int} (hp : 0 ≤ p) (h1 : iI M 343 12 ≤ n) (h2 : n < iI M 343 12 + iI M 344 12) : pwT M (up t 12 p) (ciM M p) n = pwT M t (ciM M p) n + iI M 345 12 := by
  rw [pwT_up (by omega)]
  have e1 : pwH M t (ciM M p) n 12 = 0 := if_neg (by omega)
  have e2 : pwH M (up t 12 p) (ciM M p) n 12 = iI M 345 12 := by
    unfold pwH
    rw [up_e, if_pos ⟨hp, rfl, h1, by omega⟩]
  omega
theorem hp_new {M : Mem} {t : Nat → Int} (hF : vF M) (h12 : t 12 = -1) {p : Int} (hp : 0 ≤ p) : hpT M (up t 12 p) 12 ↔ (ciM M p < 0 ∨ ∀ j, j < (iI M 344 12).toNat → pwT M t (ciM M p) (iI M 343 12 + j) + iI M 345 12 ≤ iI M 341 (5 + (ciM M p).toNat)) := by
  have b := hF 12 (by omega)
  unfold hpT
  rw [up_e]
  refine or_congr_right ⟨fun h j hj => ?_, fun h j hj => ?_⟩
  · rw [← pw_new h12 hp (by omega) (by omega)]
    exact h j hj
  · rw [pw_new h12 hp (by omega) (by omega)]
    exact h j hj
theorem sl_new {M : Mem} {t : Nat → Int} (hF : vF M) (h12 : t 12 = -1) {p : Int} (hp : 0 ≤ p) : slT M (up t 12 p) ↔ (askd M (iI M 343 12) (iI M 344 12) ≤ iI M 344 12 ∨ (1 ≤ iI M 343 12 ∧ iI M 343 12 + iI M 344 12 < 60 ∧ bt (moT M t p (-1)) (iI M 343 12 - 1).toNat = true ∧ bt (moT M t p (-1)) (iI M 343 12 + iI M 344 12).toNat = true)) := by
  unfold slT
  rw [up_e, mo_new hF h12 hp]
theorem mo_all {M : Mem} {t : Nat → Int} (hF : vF M) (h12 : t 12 = -1) (p i : Int) (hi : 0 ≤ i) : moT M (up t 12 p) i (-1) = if i = p then moT M t i (-1) ||| mI (iI M 343 12) (iI M 344 12) else moT M t i (-1) := by
  have b := hF 12 (by omega)
  refine bt_ext fun j _ => Bx ?_
  rw [bt_moT hF]
  split
  · rename_i h
    subst h
    rw [bt_or, Bool.or_eq_true, bt_moT hF, bt_mI b.1 b.2.1 b.2.2.1 b.2.2.2.1]
    constructor
    · rintro ⟨q, h1, h2, h3, h4⟩
      by_cases hq : q = 12
      · subst hq; exact Or.inr h4
      · rw [up_n hq] at h2
        exact Or.inl ⟨q, h1, h2, h3, h4⟩
    · rintro (⟨q, h1, h2, h3, h4⟩ | h)
      · have : q ≠ 12 := fun z => by subst z; omega
        exact ⟨q, h1, by rw [up_n this]; exact h2, h3, h4⟩
      · exact ⟨12, by omega, up_e _ _ _, by omega, h⟩
  · rename_i h
    rw [bt_moT hF]
    constructor
    · rintro ⟨q, h1, h2, h3, h4⟩
      by_cases hq : q = 12
      · subst hq
        rw [up_e] at h2
        exact absurd h2.symm h
      · rw [up_n hq] at h2
        exact ⟨q, h1, h2, h3, h4⟩
    · rintro ⟨q, h1, h2, h3, h4⟩
      have : q ≠ 12 := fun z => by subst z; omega
      exact ⟨q, h1, by rw [up_n this]; exact h2, h3, h4⟩
theorem ga_new {M : Mem} {t : Nat → Int} (hF : vF M) (h12 : t 12 = -1) {p : Nat} (hp : (p : Int) < iI M 341 0) : gaT M (up t 12 p) = gaT M t - gN (moT M t p (-1)) (iI M 341 4) + gN (moT M t p (-1) ||| mI (iI M 343 12) (iI M 344 12)) (iI M 341 4) := by
  unfold gaT
  rw [sm_up (h := fun x : Nat => gN (moT M (up t 12 p) x (-1)) (iI M 341 4)) (g := fun x : Nat => gN (moT M t x (-1)) (iI M 341 4)) (q := p) (iI M 341 0).toNat 0 (by omega) (by omega)]
  · show _ - gN (moT M t p (-1)) (iI M 341 4) + gN (moT M (up t 12 p) p (-1)) (iI M 341 4) = _
    rw [mo_all hF h12 p p (by omega), if_pos rfl]
  · intro x _ hx hxp
    show gN (moT M (up t 12 p) x (-1)) (iI M 341 4) = _
    rw [mo_all hF h12 p x (by omega), if_neg (by omega)]
-- the obstacle of the new one
def obT (M : Mem) (t : Nat → Int) (kd ln br : Int) (p : Nat) : Int :=
  if ¬ ftP M kd ln br (iI M 345 12) p then 1 else if ¬ alT M (up t 12 p) 12 then 2 else if ¬ hpT M (up t 12 p) 12 then 3 else if ¬ slT M (up t 12 p) then 4 else if gaT M (up t 12 p) ≤ gaT M t then 0 else 5
theorem X1_tooShortG {fl : Nat} (hfl : 1000 ≤ fl) {s : Mem} (hs : RO s) (hc : CR s 0 (iI s 341)) (hv : VR (iI s 341)) (w : Nat) (o : Int64) {f n : Int} (ef : iI s w 4 = f) (en : iI s w 5 = n) (hf : 0 ≤ f) (hn : 1 ≤ n) (hn2 : n ≤ 14) (hfn : f + n ≤ 60) {P1 P2 : Prop} [Decidable P1] [Decidable P2]
    (q1 : F_X7_holds fl o (oI (f - ((1 : Nat) : Int))) s = some (oB P1)) (q2 : F_X7_holds fl o (oI (f + n)) s = some (oB P2)) : F_X1_isTooShort fl 0 w o s = some (oB (¬ (askd s f n ≤ n ∨ (P1 ∧ P2)))) := by
  have ak := askd_bd (VR_vS hv) f n
  unfold F_X1_isTooShort B_X1_isTooShort_33 B_X1_isTooShort_34
  simp (disch := omega) only [bd_some, nx_eq, xb_r, xb_l, xc_r, xc_l, oI_lit, oI_nI, oI_add, oI_sub, oI_mul, oI_neg, gI_oI, ldA_I, ldA_L, ldO_I, ldO_L, oB_z, oB_o, gd_oB, lgc0n, oI_litN, ← Int.natCast_add, ← Int.natCast_mul, Int.toNat_natCast, if_true, if_false, oI_le, oI_lt, oI_eq, oI_nat, oI_inR, gd_t, ef, en, q1, q2, X1_stayAsked hfl hs hc hv]
  by_cases p1 : P1
  · rw [if_neg (fun q => q p1)]
    by_cases p2 : P2
    · rw [if_neg (fun q => q p2), if_neg (by omega), oB_f (fun q => q (Or.inr ⟨p1, p2⟩))]; rfl
    · rw [if_pos p2]
      by_cases a : askd s f n ≤ n
      · rw [if_pos a, oB_f (fun q => q (Or.inl a))]; rfl
      · rw [if_neg a]; exact sB_t (fun q => q.elim a (fun z => p2 z.2))
  · rw [if_pos p1]
    by_cases a : askd s f n ≤ n
    · rw [if_pos a, oB_f (fun q => q (Or.inl a))]; rfl
    · rw [if_neg a]; exact sB_t (fun q => q.elim a (fun z => p1 z.1))
theorem X1_isTooShort {fl : Nat} (hfl : 1000 ≤ fl) {s : Mem} (hs : RO s) (hc : CR s 0 (iI s 341)) (hv : VR (iI s 341)) (w : Nat) (o : Int64) {f n : Int} (ef : iI s w 4 = f) (en : iI s w 5 = n) (hf : 0 ≤ f) (hn : 1 ≤ n) (hn2 : n ≤ 14) (hfn : f + n ≤ 60) :
    F_X1_isTooShort fl 0 w o s = some (oB (¬ (askd s f n ≤ n ∨ (1 ≤ f ∧ f + n < 60 ∧ bt o (f - 1).toNat = true ∧ bt o (f + n).toNat = true)))) := by
  rw [X1_tooShortG hfl hs hc hv w o ef en hf hn hn2 hfn (X7_holds o (by omega) (by omega)) (X7_holds o (by omega) (by omega))]
  refine sB_cg (not_congr (or_congr_right ⟨fun h => ⟨by omega, by omega, h.1.2.2, h.2.2.2⟩, fun h => ⟨⟨by omega, by omega, h.2.2.1⟩, by omega, by omega, h.2.2.2⟩⟩))
-- is the power short for a party at a cell w, which itself isn't loaded
theorem X1_isPowerShortL {fl : Nat} (hfl : 1000 ≤ fl) {s M : Mem} {t : Nat → Int} (hs : RO s) (hc : CR s 0 (iI s 341)) (hv : VR (iI s 341)) (hF : vF M) {w : Nat} {x : Int} {c : Nat} (hL : LT s M t x) (hc3 : c < 3) (hx1 : -2147483648 ≤ x) (hx2 : x < 2147483648) {f n P : Int} (ef : iI s w 4 = f) (en : iI s w 5 = n) (ep : iI s w 3 = P) (hf : 0 ≤ f) (hn : 1 ≤ n) (hn2 : n ≤ 14) (hfn : f + n ≤ 60) (hP : 0 ≤ P) (hP2 : P ≤ 16) : ∀ (m : Nat) (i : Int) (k : Nat), i + m = f + n → f ≤ i → m < k →
    B_X1_isPowerShort_15 fl s k 0 w (oI x) (oI c) (oI i) = some (oB (¬ ∀ j : Nat, j < m → pwT M t c (i + j) + P ≤ iI s 341 (5 + c))) := by
  have b := VRn hv
  unfold VN at b
  have bl := VRc hv hc3
  intro m
  induction m with
  | zero =>
    intro i k h h1 hk
    obtain ⟨k, rfl⟩ : ∃ k', k = k' + 1 := ⟨k - 1, by omega⟩
    unfold B_X1_isPowerShort_15
    simp (disch := omega) only [bd_some, nx_eq, xb_r, xb_l, xc_r, xc_l, oI_lit, oI_nI, oI_add, oI_sub, oI_mul, oI_neg, gI_oI, ldA_I, ldA_L, ldO_I, ldO_L, oB_z, oB_o, gd_oB, lgc0n, oI_litN, ← Int.natCast_add, ← Int.natCast_mul, Int.toNat_natCast, if_true, if_false, oI_le, oI_lt, oI_eq, oI_nat, oI_inR, gd_t, ef, en]
    rw [if_pos (by omega), oB_f (fun q => q (fun j hj => absurd hj (Nat.not_lt_zero j)))]
    rfl
  | succ m ih =>
    intro i k h h1 hk
    obtain ⟨k, rfl⟩ : ∃ k', k = k' + 1 := ⟨k - 1, by omega⟩
    have pb := pwT_bd hF t c i
    unfold B_X1_isPowerShort_15
    simp (disch := omega) only [bd_some, nx_eq, xb_r, xb_l, xc_r, xc_l, oI_lit, oI_nI, oI_add, oI_sub, oI_mul, oI_neg, gI_oI, ldA_I, ldA_L, ldO_I, ldO_L, oB_z, oB_o, gd_oB, lgc0n, oI_litN, ← Int.natCast_add, ← Int.natCast_mul, Int.toNat_natCast, if_true, if_false, oI_le, oI_lt, oI_eq, oI_nat, oI_inR, gd_t, ld_00 hs, ld_02 hs, ld_04 hs, ld_06 hs, ld_p hs, ld_q hs, ld_s hs, c_pc hc, c_qc hc, c_sc hc, c_tn hc, c_gp hc, c_lm hc, c_p hc, c_s hc, c_q hc, c_q7 hc, c_q8 hc, c_q9 hc, c_q10 hc, c_qL hc, ef, en, ep, X1_powerUsed hfl hs hc hv hL]
    rw [if_neg (by omega)]
    by_cases hp : pwT M t c i + P ≤ iI s 341 (5 + c)
    · rw [if_pos hp]
      have := ih (i + 1) k (by omega) (by omega) (by omega)
      refine this.trans (sB_cg (not_congr ⟨fun g j hj => ?_, fun g j hj => ?_⟩))
      · rcases Nat.eq_zero_or_pos j with rfl | h0
        · rw [show i + ((0 : Nat) : Int) = i by omega]; exact hp
        · have := g (j - 1) (by omega)
          rwa [show i + 1 + ((j - 1 : Nat) : Int) = i + j by omega] at this
      · have := g (j + 1) (by omega)
        rwa [show i + ((j + 1 : Nat) : Int) = i + 1 + j by omega] at this
    · rw [if_neg hp, oB_t]
      · rfl
      · intro g
        have := g 0 (by omega)
        rw [show i + ((0 : Nat) : Int) = i by omega] at this
        exact hp this
theorem X1_isPowerShort {fl : Nat} (hfl : 1000 ≤ fl) {s M : Mem} {t : Nat → Int} (hs : RO s) (hc : CR s 0 (iI s 341)) (hv : VR (iI s 341)) (hF : vF M) {w : Nat} {x c : Int} (hL : LT s M t x) (hc1 : -1 ≤ c) (hc3 : c < 3) (hx1 : -2147483648 ≤ x) (hx2 : x < 2147483648) {f n P : Int} (ef : iI s w 4 = f) (en : iI s w 5 = n) (ep : iI s w 3 = P) (hf : 0 ≤ f) (hn : 1 ≤ n) (hn2 : n ≤ 14) (hfn : f + n ≤ 60) (hP : 0 ≤ P) (hP2 : P ≤ 16) :
    F_X1_isPowerShort fl 0 w (oI x) (oI c) s = some (oB (¬ (c < 0 ∨ ∀ j : Nat, j < n.toNat → pwT M t c (f + j) + P ≤ iI s 341 (5 + c.toNat)))) := by
  unfold F_X1_isPowerShort
  by_cases h0 : c < 0
  · simp (disch := omega) only [bd_some, nx_eq, xb_r, xb_l, xc_r, xc_l, oI_lit, oI_nI, oI_add, oI_sub, oI_mul, oI_neg, gI_oI, ldA_I, ldA_L, ldO_I, ldO_L, oB_z, oB_o, gd_oB, lgc0n, oI_litN, ← Int.natCast_add, ← Int.natCast_mul, Int.toNat_natCast, if_true, if_false, oI_le, oI_lt, oI_eq, oI_nat, oI_inR, gd_t, X7_isCircuit]
    rw [if_pos (by omega), oB_f (fun q => q (Or.inl h0))]
    rfl
  · obtain ⟨c, rfl⟩ : ∃ c' : Nat, c = c' := ⟨c.toNat, by omega⟩
    have := X1_isPowerShortL hfl hs hc hv hF hL (c := c) (by omega) hx1 hx2 ef en ep hf hn hn2 hfn hP hP2 n.toNat f fl (by omega) (by omega) (by omega)
    simp (disch := omega) only [bd_some, nx_eq, xb_r, xb_l, xc_r, xc_l, oI_lit, oI_nI, oI_add, oI_sub, oI_mul, oI_neg, gI_oI, ldA_I, ldA_L, ldO_I, ldO_L, oB_z, oB_o, gd_oB, lgc0n, oI_litN, ← Int.natCast_add, ← Int.natCast_mul, Int.toNat_natCast, if_true, if_false, oI_le, oI_lt, oI_eq, oI_nat, oI_inR, gd_t, X7_isCircuit, ef]
    rw [if_neg (by omega)]
    exact this.trans (sB_cg (not_congr ⟨Or.inr, fun g => g.resolve_left h0⟩))
theorem ob_eq {h A B C D E F : Prop} {d0 : Decidable (¬ (h ∧ A))} {d1 : Decidable (¬ A)} {d2 : Decidable B} {d3 : Decidable (¬ B)} {d4 : Decidable (¬ ¬ C)} {d5 : Decidable (¬ C)} {d6 : Decidable (¬ ¬ D)} {d7 : Decidable (¬ D)} {d8 : Decidable E} {d9 : Decidable F} (hh : h) (e : E ↔ F) :
    (if ¬ (h ∧ A) then some (oI ((1 : Nat) : Int)) else if B then (if ¬ ¬ C then (if ¬ ¬ D then (if E then some (oI ((0 : Nat) : Int)) else some (oI ((5 : Nat) : Int))) else some (oI ((4 : Nat) : Int))) else some (oI ((3 : Nat) : Int))) else some (oI ((2 : Nat) : Int))) =
    some (oI (if ¬ A then ((1 : Nat) : Int) else if ¬ B then ((2 : Nat) : Int) else if ¬ C then ((3 : Nat) : Int) else if ¬ D then ((4 : Nat) : Int) else if F then ((0 : Nat) : Int) else ((5 : Nat) : Int))) := by
  by_cases a : A
  · by_cases b : B
    · by_cases c : C
      · by_cases d : D
        · by_cases f : F
          · rw [if_neg (fun q => q ⟨hh, a⟩), if_pos b, if_pos (fun q => q c), if_pos (fun q => q d), if_pos (e.mpr f), if_neg (fun q => q a), if_neg (fun q => q b), if_neg (fun q => q c), if_neg (fun q => q d), if_pos f]
          · rw [if_neg (fun q => q ⟨hh, a⟩), if_pos b, if_pos (fun q => q c), if_pos (fun q => q d), if_neg (fun q => f (e.mp q)), if_neg (fun q => q a), if_neg (fun q => q b), if_neg (fun q => q c), if_neg (fun q => q d), if_neg f]
        · rw [if_neg (fun q => q ⟨hh, a⟩), if_pos b, if_pos (fun q => q c), if_neg (fun q => q d), if_neg (fun q => q a), if_neg (fun q => q b), if_neg (fun q => q c), if_pos d]
      · rw [if_neg (fun q => q ⟨hh, a⟩), if_pos b, if_neg (fun q => q c), if_neg (fun q => q a), if_neg (fun q => q b), if_pos c]
    · rw [if_neg (fun q => q ⟨hh, a⟩), if_neg b, if_neg (fun q => q a), if_pos b]
  · rw [if_pos (fun q => a q.2), if_pos a]
theorem X1_obstacleOf {fl : Nat} (hfl : 1000 ≤ fl) {s M : Mem} {t : Nat → Int} (hs : RO s) (hc : CR s 0 (iI s 341)) (hv : VR (iI s 341)) (hF : vF M) {w p : Nat} {x : Int} (hL : LT s M t x) (hp : (p : Int) < iI s 341 0) (hx1 : -2147483648 ≤ x) (hx2 : x < 2147483648) {f n P : Int} (ef : iI s w 4 = f) (en : iI s w 5 = n) (ep : iI s w 3 = P) (eL : gL s w 6 = mI f n) (hn : 1 ≤ n)
    (mf : iI M 343 12 = f) (mn : iI M 344 12 = n) (mp : iI M 345 12 = P) : F_X1_obstacleOf fl 0 w (oI x) (oI p) s = some (oI (obT M t (iI s w 0) (iI s w 1) (iI s w 2) p)) := by
  have b := VRn hv
  unfold VN at b
  have bp := VRp hv hp
  unfold VP at bp
  have bm := hF 12 (by omega)
  rw [mf, mn, mp] at bm
  have eci : ciM M p = iI s 341 (8 + 5 * p + 3) := by unfold ciM; rw [hL.1, Int.toNat_natCast]
  have eft : ftP M (iI s w 0) (iI s w 1) (iI s w 2) (iI M 345 12) p ↔ ftP s (iI s w 0) (iI s w 1) (iI s w 2) P p := by unfold ftP; rw [hL.1, hL.1, hL.1, hL.1, mp]
  have eal := al_new hF hL.2.1 (p := p) (by omega)
  have ehp := hp_new hF hL.2.1 (p := p) (by omega)
  have esl := sl_new hF hL.2.1 (p := p) (by omega)
  have ega := ga_new hF hL.2.1 (p := p) (by rw [hL.1]; exact hp)
  rw [mf, mn] at eal ega
  rw [mf, mn, mp, eci, hL.1] at ehp
  rw [mf, mn, askd_41 hL.1] at esl
  have q1 := X1_hasFit (fl := fl) hs hc hv w (p := p) (by omega)
  have q2 := X1_busyNights (p := p) hfl hs hc hv hL hF (by omega) (by omega) hx1 hx2
  have q3 := X1_circuitOf (fl := fl) hs hc hp (by omega)
  have q4 := X1_isPowerShort hfl hs hc hv hF hL (c := iI s 341 (8 + 5 * p + 3)) (by omega) (by omega) hx1 hx2 ef en ep (by omega) (by omega) (by omega) (by omega) (by omega) (by omega)
  have q5 := X1_isTooShort hfl hs hc hv w (moT M t p (-1)) ef en (by omega) (by omega) (by omega) (by omega)
  have nz1 := nz_moT hF t p (-1)
  have eg4 : iI s 0 7 = ((iI s 341 4).toNat : Nat) := by rw [c_gp hc]; omega
  have q6 := X1_countGaps (fl := fl) hfl (nz_or nz1 (nz_mI (f := f) (n := n) (by omega) (by omega) (by omega) (by omega))) eg4 (by omega)
  have q7 := X1_countGaps (fl := fl) hfl nz1 eg4 (by omega)
  have e4 : (((iI s 341 4).toNat : Nat) : Int) = iI M 341 4 := by rw [hL.1]; omega
  rw [e4] at q6 q7
  have g6 := gN_b (moT M t p (-1) ||| mI f n) (iI M 341 4)
  have g7 := gN_b (moT M t p (-1)) (iI M 341 4)
  rw [ep] at q1
  unfold F_X1_obstacleOf obT
  generalize moT M t (p : Int) (-1) = O at *
  simp (disch := omega) only [q1, q2, q3, q4, q5, q6, q7, eL, bd_some, nx_eq, xb_r, xb_l, xc_r, xc_l, oI_lit, oI_nI, oI_add, oI_sub, oI_mul, oI_neg, gI_oI, ldA_I, ldA_L, ldO_I, ldO_L, oB_z, oB_o, gd_oB, lgc0n, oI_litN, ← Int.natCast_add, ← Int.natCast_mul, Int.toNat_natCast, if_true, if_false, oI_le, oI_lt, oI_eq, oI_nat, oI_inR, gd_t, eft, eal, ehp, esl, ega]
  refine ob_eq hp ?_
  omega
