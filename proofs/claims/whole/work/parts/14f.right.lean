theorem lgcE (a b : Int64) : lg_cmp a b = 0 ↔ a = b := by
  constructor
  · intro h
    unfold lg_cmp at h
    by_cases h1 : b < a
    · rw [if_pos h1] at h; exact absurd h (by decide)
    · rw [if_neg h1] at h
      by_cases h2 : a = b
      · exact h2
      · rw [if_neg h2] at h; exact absurd h (by decide)
  · intro h
    subst h
    unfold lg_cmp
    rw [if_neg Int64.lt_irrefl, if_pos rfl]
theorem X5_load15 {fl : Nat} {S M : Mem} {W D : Nat → Nat} {c : Nat} (hB : PB S M) (hS : SL S M W D c) {ci n : Nat} (hci : ci < 3) (hn : n < 60) : ∀ (m k : Nat) (f : Nat), k + m = c + 1 → m < f →
    B_X5_plannedLoad_15 fl S f 321 (oI ci) (oI n) (oI (pwT M (PLC (iI M 342) W D k) ci n)) (oI k) = some (oI (pwT M (PLC (iI M 342) W D (c + 1)) ci n)) := by
  have hB' := hB
  obtain ⟨hs, hcs, hv, hc, hL, hF, -⟩ := hB'
  have c2 := hS.2.1
  intro m
  induction m with
  | zero =>
    intro k f h hf
    obtain ⟨f, rfl⟩ : ∃ f', f = f' + 1 := ⟨f - 1, by omega⟩
    have hk : k = c + 1 := by omega
    subst hk
    unfold B_X5_plannedLoad_15
    rw [show gI S 321 2 = oI (c : Int) from by rw [gI_oI, hS.1], if_pos (by rw [oI_lt (by omega) (by omega) (by omega) (by omega)]; omega)]
  | succ m ih =>
    intro k f h hf
    obtain ⟨f, rfl⟩ : ∃ f', f = f' + 1 := ⟨f - 1, by omega⟩
    have ih' := ih (k + 1) f (by omega) (by omega)
    have W12 := SL_12 hS (k := k) (by omega)
    have b := hF (W k) W12
    obtain ⟨d1, d2, d3⟩ := hS.2.2.2.2.1 k (by omega)
    obtain ⟨w1, w2, w3, -⟩ := SL_w hB hS (k := k) (by omega)
    have hps := pw_seq (M := M) (t := iI M 342) (D := D) hS.2.2.2.1 (fun i hi => SL_12 hS hi) ci n k (by omega)
    have tk : (oI (k : Int)).toNatClampNeg = k := by rw [oI_nat (by omega) (by omega), Int.toNat_natCast]
    have r3 : ∀ n : Nat, n = 3 → inR (oI (k : Int)) n := fun n hn => (oI_inR (by omega) (by omega)).mpr (by omega)
    have w1' : ldO S 323 (oI (k : Int)).toNatClampNeg 5 = some (wc W k) := by rw [tk]; exact w1
    have g28 : gI S 328 (oI (k : Int)).toNatClampNeg = oI (ciM M (D k)) := by rw [tk, gI_oI, d3]
    have cid := PB_ci hB d1
    have en : oI (k : Int) + 1 = oI ((k + 1 : Nat) : Int) := by rw [oI_lit, oI_add]; rfl
    have old : ∃ o : Int, gI S 327 (oI (k : Int)).toNatClampNeg = oI o ∧ -1 ≤ o ∧ o ≤ 2 ∧ (o = ci ↔ (0 ≤ iI M 342 (W k) ∧ ciM M (iI M 342 (W k)) = ci)) := by
      by_cases h0 : k = 0
      · subst h0
        refine ⟨-1, by rw [tk, gI_oI, hcs.2.2.2], by omega, by omega, ?_⟩
        rw [hS.2.2.1, hL.2.1]
        omega
      · obtain ⟨a1, a2, a3, a4, a5⟩ := hS.2.2.2.2.2 k (by omega) (by omega)
        have pl := PB_pl hB (q := W k) (by omega)
        have cio := PB_ci hB (p := (iI M 342 (W k)).toNat) (by omega)
        rw [show (((iI M 342 (W k)).toNat : Nat) : Int) = iI M 342 (W k) by omega] at cio
        exact ⟨ciM M (iI M 342 (W k)), by rw [tk, gI_oI, a5], cio.2.1, cio.2.2, fun z => ⟨a2, z⟩, fun z => z.2⟩
    obtain ⟨o, o1, o2, o3, o4⟩ := old
    unfold B_X5_plannedLoad_15 B_X5_plannedLoad_69 B_X5_plannedLoad_97 B_X5_plannedLoad_99
    rw [show gI S 321 2 = oI (c : Int) from by rw [gI_oI, hS.1], if_neg (by rw [oI_lt (by omega) (by omega) (by omega) (by omega)]; omega), ld_321_3 hs, bd_some]
    dsimp only
    rw [gd_t (r3 3 rfl), w1', bd_some, w2]
    by_cases hin : inN M (W k) n
    · have hbt := (bt_mI (j := n) b.1 b.2.1 b.2.2.1 b.2.2.2.1).mpr hin
      rw [if_neg (fun q => by rw [(bit_u _ (by omega)).mp q] at hbt; cases hbt), ld_321_8 hs, bd_some]
      dsimp only
      rw [g28, gd_t (r3 3 rfl)]
      have new : (ciM M (D k) = ci → pwH M (fun _ => (D k : Int)) ci n (W k) = iI M 345 (W k)) ∧ (ciM M (D k) ≠ ci → pwH M (fun _ => (D k : Int)) ci n (W k) = 0) := by
        unfold pwH
        exact ⟨fun z => if_pos ⟨by show (0 : Int) ≤ (D k : Int); omega, z, hin.1, by have := hin.2; omega⟩, fun z => if_neg (fun q => z q.2.1)⟩
      have oldv : (o = ci → pwH M (iI M 342) ci n (W k) = iI M 345 (W k)) ∧ (o ≠ ci → pwH M (iI M 342) ci n (W k) = 0) := by
        unfold pwH
        exact ⟨fun z => if_pos ⟨(o4.mp z).1, (o4.mp z).2, hin.1, by have := hin.2; omega⟩, fun z => if_neg (fun q => z (o4.mpr ⟨q.1, q.2.1⟩))⟩
      by_cases hnew : ciM M (D k) = ci
      · rw [if_pos (congrArg oI hnew), bd_some]
        dsimp only
        rw [gd_t (r3 3 rfl), w1', bd_some, show gI S (wc W k) 3 = oI (iI M 345 (W k)) from by rw [gI_oI, w3], ld_321_7 hs, bd_some]
        dsimp only
        rw [o1, gd_t (r3 3 rfl)]
        by_cases hold : o = ci
        · rw [if_pos (congrArg oI hold), bd_some]
          dsimp only
          rw [gd_t (r3 3 rfl), w1', bd_some, show gI S (wc W k) 3 = oI (iI M 345 (W k)) from by rw [gI_oI, w3], oI_add, oI_sub, en]
          rw [hps, new.1 hnew, oldv.1 hold] at ih'
          rw [show pwT M (PLC (iI M 342) W D k) ci n + iI M 345 (W k) - iI M 345 (W k) = pwT M (PLC (iI M 342) W D k) ci n - iI M 345 (W k) + iI M 345 (W k) by omega]
          exact ih'
        · rw [if_neg (fun q => hold ((oI_eq (by omega) (by omega) (by omega) (by omega)).mp q)), show (0 : Int32) = oI 0 from rfl, oI_add, oI_sub, en]
          rw [hps, new.1 hnew, oldv.2 hold] at ih'
          rw [show pwT M (PLC (iI M 342) W D k) ci n + iI M 345 (W k) - 0 = pwT M (PLC (iI M 342) W D k) ci n - 0 + iI M 345 (W k) by omega]
          exact ih'
      · rw [if_neg (fun q => hnew ((oI_eq (by omega) (by omega) (by omega) (by omega)).mp q)), ld_321_7 hs, bd_some]
        dsimp only
        rw [o1, gd_t (r3 3 rfl)]
        by_cases hold : o = ci
        · rw [if_pos (congrArg oI hold), bd_some]
          dsimp only
          rw [gd_t (r3 3 rfl), w1', bd_some, show gI S (wc W k) 3 = oI (iI M 345 (W k)) from by rw [gI_oI, w3], show (0 : Int32) = oI 0 from rfl, oI_add, oI_sub, en]
          rw [hps, new.2 hnew, oldv.1 hold] at ih'
          rw [show pwT M (PLC (iI M 342) W D k) ci n + 0 - iI M 345 (W k) = pwT M (PLC (iI M 342) W D k) ci n - iI M 345 (W k) + 0 by omega]
          exact ih'
        · rw [if_neg (fun q => hold ((oI_eq (by omega) (by omega) (by omega) (by omega)).mp q)), show (0 : Int32) = oI 0 from rfl, oI_add, oI_sub, en]
          rw [hps, new.2 hnew, oldv.2 hold] at ih'
          rw [show pwT M (PLC (iI M 342) W D k) ci n + 0 - 0 = pwT M (PLC (iI M 342) W D k) ci n - 0 + 0 by omega]
          exact ih'
    · have hbt : bt (mI (iI M 343 (W k)) (iI M 344 (W k))) n = false := Bf.mpr (fun q => hin ((bt_mI (j := n) b.1 b.2.1 b.2.2.1 b.2.2.2.1).mp q))
      rw [if_pos ((bit_u _ (by omega)).mpr hbt), en]
      have z1 : pwH M (fun _ => (D k : Int)) ci n (W k) = 0 := if_neg (fun q => hin ⟨q.2.2.1, by have := q.2.2.2; omega⟩)
      have z2 : pwH M (iI M 342) ci n (W k) = 0 := if_neg (fun q => hin ⟨q.2.2.1, by have := q.2.2.2; omega⟩)
      rw [hps, z1, z2] at ih'
      rw [show pwT M (PLC (iI M 342) W D k) ci n = pwT M (PLC (iI M 342) W D k) ci n - 0 + 0 by omega]
      exact ih'
theorem X5_plannedLoad {fl : Nat} (hfl : 1000 ≤ fl) {S M : Mem} {W D : Nat → Nat} {c : Nat} (hB : PB S M) (hS : SL S M W D c) (hbl : BL S M) {ci n : Nat} (hci : ci < 3) (hn : n < 60) : F_X5_plannedLoad fl 321 (oI ci) (oI n) S = some (oI (pwT M (PT M W D c) ci n)) := by
  have c2 := hS.2.1
  have := X5_load15 (fl := fl) hB hS hci hn (c + 1) 0 fl (by omega) (by omega)
  have hx : oI (ci : Int) * 60 + oI (n : Int) = oI ((60 * ci + n : Nat) : Int) := by rw [oI_lit, oI_mul, oI_add]; congr 1; show (ci : Int) * 60 + n = _; omega
  unfold F_X5_plannedLoad
  rw [ld_321_12 hB.1, bd_some, hx]
  dsimp only
  rw [gd_t ((oI_inR (by omega) (by omega)).mpr (by omega)), show gI S 332 (oI ((60 * ci + n : Nat) : Int)).toNatClampNeg = oI (pwT M (PLC (iI M 342) W D 0) ci n) from by rw [oI_nat (by omega) (by omega), Int.toNat_natCast, gI_oI, hbl.2 ci n hci hn]; rfl]
  exact this
theorem X5_hp55 {fl : Nat} (hfl : 1000 ≤ fl) {S M : Mem} {W D : Nat → Nat} {c : Nat} (hB : PB S M) (hS : SL S M W D c) (hbl : BL S M) {k2 : Nat → Int32 → Option Int32} {v1 : Int32} {ci : Nat} (hci : ci < 3) : ∀ (m n : Nat) (f : Nat), n + m ≤ 60 → m < f →
    B_X5_hasPower_55 k2 fl S f 321 v1 (oI ci) (oI ((n + m : Nat) : Int)) (oI n) = if (∀ j, j < m → pwT M (PT M W D c) ci ((n + j : Nat) : Int) ≤ iI M 341 (5 + ci)) then k2 321 (v1 + 1) else some 0 := by
  intro m
  induction m with
  | zero =>
    intro n f h hf
    obtain ⟨f, rfl⟩ : ∃ f', f = f' + 1 := ⟨f - 1, by omega⟩
    unfold B_X5_hasPower_55
    rw [if_pos (by rw [oI_le (by omega) (by omega) (by omega) (by omega)]; omega), if_pos (fun j hj => absurd hj (Nat.not_lt_zero j))]
  | succ m ih =>
    intro n f h hf
    obtain ⟨f, rfl⟩ : ∃ f', f = f' + 1 := ⟨f - 1, by omega⟩
    have hB' := hB
    obtain ⟨hs, -, hv, hc, hL, hF, -⟩ := hB'
    have bl := VRc hv hci
    have pb := pwT_bd hF (PT M W D c) ci n
    have ih' := ih (n + 1) f (by omega) (by omega)
    unfold B_X5_hasPower_55
    rw [if_neg (by rw [oI_le (by omega) (by omega) (by omega) (by omega)]; omega), X5_plannedLoad hfl hB hS hbl hci (by omega), bd_some, ld_321_0 hs, bd_some, ld_06 hs, bd_some]
    dsimp only
    rw [gd_t ((oI_inR (by omega) (by omega)).mpr (by omega)), show gI S 26 (oI (ci : Int)).toNatClampNeg = oI (iI S 341 (5 + ci)) from by rw [oI_nat (by omega) (by omega), Int.toNat_natCast, gI_oI, c_lm hc hci], show oI (n : Int) + 1 = oI ((n + 1 : Nat) : Int) from by rw [oI_lit, oI_add]; rfl]
    rw [hL.1] at ih' ⊢
    by_cases hp : pwT M (PT M W D c) ci n ≤ iI S 341 (5 + ci)
    · rw [if_pos (by rw [oI_le (by omega) (by omega) (by omega) (by omega)]; exact hp), show ((n + (m + 1) : Nat) : Int) = ((n + 1 + m : Nat) : Int) by omega, ih']
      by_cases hall : ∀ j, j < m → pwT M (PT M W D c) ci ((n + 1 + j : Nat) : Int) ≤ iI S 341 (5 + ci)
      · rw [if_pos hall, if_pos]
        intro j hj
        by_cases h0 : j = 0
        · subst h0; exact hp
        · have := hall (j - 1) (by omega)
          rw [show n + 1 + (j - 1) = n + j by omega] at this
          exact this
      · rw [if_neg hall, if_neg]
        intro hx
        refine hall fun j hj => ?_
        have := hx (j + 1) (by omega)
        rw [show n + (j + 1) = n + 1 + j by omega] at this
        exact this
    · rw [if_neg (by rw [oI_le (by omega) (by omega) (by omega) (by omega)]; exact hp), if_neg]
      intro hx
      exact hp (hx 0 (by omega))
theorem X5_hp2 {fl : Nat} (hfl : 1000 ≤ fl) {S M : Mem} {W D : Nat → Nat} {c : Nat} (hB : PB S M) (hS : SL S M W D c) (hbl : BL S M) : ∀ (m k : Nat) (f : Nat), k + m = c + 1 → m < f → (∀ i, i < k → hpT M (PT M W D c) (W i)) →
    B_X5_hasPower_2 fl S f 321 (oI k) = some (oB (∀ i, i < c + 1 → hpT M (PT M W D c) (W i))) := by
  have hB' := hB
  obtain ⟨hs, hcs, hv, hc, hL, hF, -⟩ := hB'
  have c2 := hS.2.1
  intro m
  induction m with
  | zero =>
    intro k f h hf hp
    obtain ⟨f, rfl⟩ : ∃ f', f = f' + 1 := ⟨f - 1, by omega⟩
    have hk : k = c + 1 := by omega
    subst hk
    unfold B_X5_hasPower_2
    rw [show gI S 321 2 = oI (c : Int) from by rw [gI_oI, hS.1], if_pos (by rw [oI_lt (by omega) (by omega) (by omega) (by omega)]; omega)]
    exact sB_t hp
  | succ m ih =>
    intro k f h hf hp
    obtain ⟨f, rfl⟩ : ∃ f', f = f' + 1 := ⟨f - 1, by omega⟩
    have W12 := SL_12 hS (k := k) (by omega)
    have b := hF (W k) W12
    obtain ⟨d1, d2, d3⟩ := hS.2.2.2.2.1 k (by omega)
    obtain ⟨w1, w2, w3, w4, w5⟩ := SL_w hB hS (k := k) (by omega)
    have tk : (oI (k : Int)).toNatClampNeg = k := by rw [oI_nat (by omega) (by omega), Int.toNat_natCast]
    have r3 : ∀ n : Nat, n = 3 → inR (oI (k : Int)) n := fun n hn => (oI_inR (by omega) (by omega)).mpr (by omega)
    have w1' : ldO S 323 (oI (k : Int)).toNatClampNeg 5 = some (wc W k) := by rw [tk]; exact w1
    have g28 : gI S 328 (oI (k : Int)).toNatClampNeg = oI (ciM M (D k)) := by rw [tk, gI_oI, d3]
    have g4 : gI S (wc W k) 4 = oI (iI M 343 (W k)) := by rw [gI_oI, w4]
    have g5 : gI S (wc W k) 5 = oI (iI M 344 (W k)) := by rw [gI_oI, w5]
    have cid := PB_ci hB d1
    have en : oI (k : Int) + 1 = oI ((k + 1 : Nat) : Int) := by rw [oI_lit, oI_add]; rfl
    have hT : PT M W D c (W k) = D k := PLC_m hS.2.2.2.1 (c + 1) k (by omega) (by omega)
    have hhp : hpT M (PT M W D c) (W k) ↔ (ciM M (D k) < 0 ∨ ∀ j, j < (iI M 344 (W k)).toNat → pwT M (PT M W D c) (ciM M (D k)) (iI M 343 (W k) + j) ≤ iI M 341 (5 + (ciM M (D k)).toNat)) := by
      unfold hpT
      rw [hT]
    have next : hpT M (PT M W D c) (W k) → B_X5_hasPower_2 fl S f 321 (oI k + 1) = some (oB (∀ i, i < c + 1 → hpT M (PT M W D c) (W i))) := fun hx => by
      rw [en]
      refine ih (k + 1) f (by omega) (by omega) (fun i hi => ?_)
      by_cases hik : i = k
      · subst hik; exact hx
      · exact hp i (by omega)
    unfold B_X5_hasPower_2 B_X5_hasPower_47
    rw [show gI S 321 2 = oI (c : Int) from by rw [gI_oI, hS.1], if_neg (by rw [oI_lt (by omega) (by omega) (by omega) (by omega)]; omega), ld_321_8 hs, bd_some]
    dsimp only
    rw [gd_t (r3 3 rfl), ld_321_3 hs, bd_some]
    dsimp only
    rw [gd_t (r3 3 rfl), w1', bd_some, g28, X7_isCircuit (by omega) (by omega), bd_some]
    by_cases h0 : ciM M (D k) < 0
    · rw [ifB_f (by omega), g4]
      obtain ⟨f2, rfl⟩ : ∃ f', fl = f' + 1 := ⟨fl - 1, by omega⟩
      conv => lhs; unfold B_X5_hasPower_55
      rw [if_pos (Int32.le_refl _)]
      exact next (hhp.mpr (Or.inl h0))
    · obtain ⟨ci, hce⟩ : ∃ ci : Nat, ciM M (D k) = ci := ⟨(ciM M (D k)).toNat, by omega⟩
      obtain ⟨F, hFe⟩ : ∃ F : Nat, iI M 343 (W k) = F := ⟨(iI M 343 (W k)).toNat, by omega⟩
      obtain ⟨N, hNe⟩ : ∃ N : Nat, iI M 344 (W k) = N := ⟨(iI M 344 (W k)).toNat, by omega⟩
      have i55 := X5_hp55 (fl := fl) hfl hB hS hbl (k2 := B_X5_hasPower_2 fl S f) (v1 := oI k) (ci := ci) (by omega) N F fl (by omega) (by omega)
      rw [ifB_t (by omega), g4, g5, oI_add, hce, hFe, hNe, show (F : Int) + N = ((F + N : Nat) : Int) from rfl, i55]
      rw [hce, hFe, hNe, Int.toNat_natCast, Int.toNat_natCast] at hhp
      by_cases hall : ∀ j, j < N → pwT M (PT M W D c) ci ((F + j : Nat) : Int) ≤ iI M 341 (5 + ci)
      · rw [if_pos hall]
        exact next (hhp.mpr (Or.inr hall))
      · rw [if_neg hall]
        refine sB_f (fun hx => ?_)
        have := hhp.mp (hx k (by omega))
        exact hall (this.resolve_left (by omega))
theorem X5_mg4 {fl : Nat} (hfl : 1000 ≤ fl) {S M : Mem} {T : Nat → Int} (hB : PB S M) (hbl : BL S M) (hpl : ∀ i : Nat, (i : Int) < iI S 341 0 → gL S 331 i = moT M T i (-1)) : ∀ (m i : Nat) (a : Int) (f : Nat), iI S 341 0 = ((i + m : Nat) : Int) → m < f → -(60 * i) ≤ a → a ≤ 60 * i →
    B_X5_makesGaps_4 fl S f 321 (oI a) (oI i) = some (oB (0 < a + sm (fun p => gN (moT M T p (-1)) (iI S 341 4) - gN (moT M (iI M 342) p (-1)) (iI S 341 4)) m i)) := by
  have hB' := hB
  obtain ⟨hs, hcs, hv, hc, hL, hF, -⟩ := hB'
  have bn := VRn hv
  unfold VN at bn
  have eg4 : iI S 0 7 = ((iI S 341 4).toNat : Nat) := by rw [c_gp hc]; omega
  have e4 : (((iI S 341 4).toNat : Nat) : Int) = iI S 341 4 := by omega
  intro m
  induction m with
  | zero =>
    intro i a f h hf h1 h2
    obtain ⟨f, rfl⟩ : ∃ f', f = f' + 1 := ⟨f - 1, by omega⟩
    rw [sm_0, Int.add_zero]
    unfold B_X5_makesGaps_4
    rw [ld_321_0 hs, bd_some, gI_oI, c_pc hc, if_pos (by rw [oI_le (by omega) (by omega) (by omega) (by omega)]; omega)]
    by_cases ha : 0 < a
    · rw [if_neg (by rw [n0_o, oI_le (by omega) (by omega) (by omega) (by omega)]; omega)]
      exact sB_t ha
    · rw [if_pos (by rw [n0_o, oI_le (by omega) (by omega) (by omega) (by omega)]; omega)]
      exact sB_f ha
  | succ m ih =>
    intro i a f h hf h1 h2
    obtain ⟨f, rfl⟩ : ∃ f', f = f' + 1 := ⟨f - 1, by omega⟩
    have td : (oI (i : Int)).toNatClampNeg = i := by rw [oI_nat (by omega) (by omega), Int.toNat_natCast]
    have r6 : ∀ n : Nat, n = 6 → inR (oI (i : Int)) n := fun n hn => (oI_inR (by omega) (by omega)).mpr (by omega)
    have en : oI (i : Int) + 1 = oI ((i + 1 : Nat) : Int) := by rw [oI_lit, oI_add]; rfl
    have g31 : gL S 331 (oI (i : Int)).toNatClampNeg = moT M T i (-1) := by rw [td]; exact hpl i (by omega)
    have g30 : gL S 330 (oI (i : Int)).toNatClampNeg = moT M (iI M 342) i (-1) := by rw [td]; exact hbl.1 i (by omega)
    have b1 := gN_b (moT M T i (-1)) (iI S 341 4)
    have b2 := gN_b (moT M (iI M 342) i (-1)) (iI S 341 4)
    rw [sm_s]
    unfold B_X5_makesGaps_4 B_X5_makesGaps_67
    rw [ld_321_0 hs, bd_some, gI_oI, c_pc hc, if_neg (by rw [oI_le (by omega) (by omega) (by omega) (by omega)]; omega), ld_321_11 hs, bd_some]
    dsimp only
    rw [gd_t (r6 6 rfl), ld_321_10 hs, bd_some]
    dsimp only
    rw [gd_t (r6 6 rfl), g31, g30]
    by_cases heq : moT M T i (-1) = moT M (iI M 342) i (-1)
    · rw [if_pos ((lgcE _ _).mpr heq), heq, en]
      have := ih (i + 1) a f (by omega) (by omega) (by omega) (by omega)
      rw [this]
      refine sB_cg ?_
      omega
    · obtain ⟨E1, p1, p2⟩ := X1_gapEdges (fl := fl) (s := S) hfl (moT M T i (-1)) eg4 (by omega)
      obtain ⟨E2, q1, q2⟩ := X1_gapEdges (fl := fl) (s := S) hfl (moT M (iI M 342) i (-1)) eg4 (by omega)
      have z1 := gN_E p2 (nz_moT hF _ _ _)
      have z2 := gN_E q2 (nz_moT hF _ _ _)
      rw [e4] at z1 z2
      rw [if_neg (fun q => heq ((lgcE _ _).mp q)), bd_some, bd_some]
      dsimp only
      rw [gd_t (r6 6 rfl), g31, p1, bd_some, bc_cn, bd_some, bd_some, bd_some]
      dsimp only
      rw [gd_t (r6 6 rfl), g30, q1, bd_some, bc_cn, bd_some, ← z1, ← z2, oI_sub, oI_add, en]
      have := ih (i + 1) (a + (gN (moT M T i (-1)) (iI S 341 4) - gN (moT M (iI M 342) i (-1)) (iI S 341 4))) f (by omega) (by omega) (by omega) (by omega)
      rw [this]
      refine sB_cg ?_
      omega
