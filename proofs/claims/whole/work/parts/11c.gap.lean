-- gaps: edges by shifts against the reference's scan
def eg (v : Int64) (g j : Nat) : Prop := bt v j = true ∧ ∃ l, 1 ≤ l ∧ l ≤ g ∧ (∀ x, 1 ≤ x → x ≤ l → bt v (j + x) = false) ∧ bt v (j + l + 1) = true
theorem eg_next {v : Int64} {g l i : Nat} (hl : bt v l = true) (hi : bt v i = true) (hli : l < i) (hn : ∀ j, l < j → j < i → bt v j = false) : eg v g l ↔ l + 2 ≤ i ∧ i ≤ l + g + 1 := by
  constructor
  · rintro ⟨_, n, h1, h2, h3, h4⟩
    by_cases hc : l + n + 1 < i
    · rw [hn (l + n + 1) (by omega) hc] at h4; cases h4
    · by_cases hd : i ≤ l + n
      · have := h3 (i - l) (by omega) (by omega)
        rw [show l + (i - l) = i by omega, hi] at this
        cases this
      · omega
  · rintro ⟨h1, h2⟩
    refine ⟨hl, i - l - 1, by omega, by omega, fun x hx hx2 => hn (l + x) (by omega) (by omega), ?_⟩
    rw [show l + (i - l - 1) + 1 = i by omega]
    exact hi
def EG (v : Int64) (g : Nat) (E : Int64) : Prop := ∀ j, j < 64 → (bt E j = true ↔ eg v g j)
theorem EG_f {v E : Int64} {g : Nat} (h : EG v g E) {j : Nat} (hj : bt v j = false) : bt E j = false := by
  by_cases h64 : j < 64
  · rw [Bf, h j h64]
    intro q
    rw [q.1] at hj
    cases hj
  · exact bt_big _ (by omega)
theorem X1_gapEdgesL {fl : Nat} {s : Mem} {v : Int64} {g : Nat} (hg : iI s 0 7 = g) (hg1 : g ≤ 5) : ∀ (m L : Nat) (E O : Int64) (k : Nat), L + m = g + 1 → 1 ≤ L → m < k →
    (∀ j, j < 64 → (bt O j = true ↔ bt v j = true ∧ ∀ x, 1 ≤ x → x < L → bt v (j + x) = false)) → EG v (L - 1) E → ∃ E', B_X1_gapEdges_8 fl s k 0 v E O (oI L) = some E' ∧ EG v g E' := by
  intro m
  induction m with
  | zero =>
    intro L E O k h h1 hk hO hE
    obtain ⟨k, rfl⟩ : ∃ k', k = k' + 1 := ⟨k - 1, by omega⟩
    refine ⟨E, ?_, by rw [show L - 1 = g by omega] at hE; exact hE⟩
    unfold B_X1_gapEdges_8
    simp (disch := omega) only [bd_some, nx_eq, xb_r, xb_l, xc_r, xc_l, oI_lit, oI_nI, oI_add, oI_sub, oI_mul, oI_neg, gI_oI, ldA_I, ldA_L, ldO_I, ldO_L, oB_z, oB_o, gd_oB, lgc0n, oI_litN, ← Int.natCast_add, ← Int.natCast_mul, Int.toNat_natCast, if_true, if_false, oI_le, oI_lt, oI_eq, oI_nat, oI_inR, gd_t, hg]
    rw [if_pos (by omega)]
  | succ m ih =>
    intro L E O k h h1 hk hO hE
    obtain ⟨k, rfl⟩ : ∃ k', k = k' + 1 := ⟨k - 1, by omega⟩
    unfold B_X1_gapEdges_8
    simp (disch := omega) only [bd_some, nx_eq, xb_r, xb_l, xc_r, xc_l, oI_lit, oI_nI, oI_add, oI_sub, oI_mul, oI_neg, gI_oI, ldA_I, ldA_L, ldO_I, ldO_L, oB_z, oB_o, gd_oB, lgc0n, oI_litN, ← Int.natCast_add, ← Int.natCast_mul, Int.toNat_natCast, if_true, if_false, oI_le, oI_lt, oI_eq, oI_nat, oI_inR, gd_t, hg]
    rw [if_neg (by omega)]
    have hO2 : ∀ j, j < 64 → (bt (O &&& ((Int64.toUInt64 v >>> ((Int32.toInt64 (oI L)).toUInt64 &&& Int64.toUInt64 63)).toInt64 ^^^ (-1 : Int64))) j = true ↔ bt v j = true ∧ ∀ x, 1 ≤ x → x < L + 1 → bt v (j + x) = false) := by
      intro j hj
      rw [bt_and, bt_not _ hj, bt_ushr _ _ (by omega), Bool.and_eq_true, hO j hj, Bool.not_eq_true']
      constructor
      · rintro ⟨⟨a, b⟩, c⟩
        refine ⟨a, fun x hx hx2 => ?_⟩
        by_cases hxl : x = L
        · subst hxl; rw [Nat.add_comm]; exact c
        · exact b x hx (by omega)
      · rintro ⟨a, b⟩
        refine ⟨⟨a, fun x hx hx2 => b x hx (by omega)⟩, ?_⟩
        rw [Nat.add_comm]
        exact b L h1 (by omega)
    refine ih (L + 1) _ _ k (by omega) (by omega) (by omega) hO2 ?_
    intro j hj
    rw [bt_or, bt_and, bt_ushr _ _ (by omega), Bool.or_eq_true, Bool.and_eq_true, hO2 j hj, hE j hj]
    constructor
    · rintro (⟨a, n, b1, b2, b3, b4⟩ | ⟨⟨a, b⟩, c⟩)
      · exact ⟨a, n, b1, by omega, b3, b4⟩
      · refine ⟨a, L, h1, by omega, fun x hx hx2 => b x hx (by omega), ?_⟩
        rw [show j + L + 1 = L + 1 + j by omega]
        exact c
    · rintro ⟨a, n, b1, b2, b3, b4⟩
      by_cases hn : n = L
      · subst hn
        refine Or.inr ⟨⟨a, fun x hx hx2 => b3 x hx (by omega)⟩, ?_⟩
        rw [show n + 1 + j = j + n + 1 by omega]
        exact b4
      · exact Or.inl ⟨a, n, b1, by omega, b3, b4⟩
theorem X1_gapEdges {fl : Nat} (hfl : 1000 ≤ fl) {s : Mem} (v : Int64) {g : Nat} (hg : iI s 0 7 = g) (hg1 : g ≤ 5) : ∃ E, F_X1_gapEdges fl 0 v s = some E ∧ EG v g E := by
  unfold F_X1_gapEdges
  refine X1_gapEdgesL (fl := fl) hg hg1 g 1 0 v fl (by omega) (by omega) (by omega) ?_ ?_
  · intro j hj
    exact ⟨fun h => ⟨h, fun x h1 h2 => by omega⟩, fun h => h.1⟩
  · intro j hj
    rw [bt_zero]
    exact ⟨fun h => (by cases h), fun ⟨_, n, h1, h2, _⟩ => by omega⟩
-- where the scan stands: the last busy night, and how many edges are below it
def gSt (v E : Int64) (i : Nat) (st : Int × Int) : Prop := (st.2 = -1 ∧ st.1 = 0 ∧ ∀ j, j < i → bt v j = false) ∨ ∃ l : Nat, st.2 = l ∧ l < i ∧ bt v l = true ∧ (∀ j, l < j → j < i → bt v j = false) ∧ st.1 = cn E l
theorem cn_none {v E : Int64} {g : Nat} (h : EG v g E) : ∀ (m n : Nat), (∀ j, n ≤ j → j < n + m → bt v j = false) → cn E (n + m) = cn E n := fun m n hn => cn_skip E m n (fun j h1 h2 => EG_f h (hn j h1 h2))
theorem gSt_busy {v E : Int64} {g i : Nat} (hE : EG v g E) (hi : bt v i = true) {st : Int × Int} (h : gSt v E i st) : gSt v E (i + 1) (gT v g st i) := by
  unfold gT
  rw [if_pos hi]
  rcases h with ⟨h1, h2, h3⟩ | ⟨l, h1, h2, h3, h4, h5⟩
  · refine Or.inr ⟨i, rfl, by omega, hi, fun j a b => by omega, ?_⟩
    rw [if_neg (by omega)]
    have := cn_none hE i 0 (fun j _ h => h3 j (by omega))
    rw [Nat.zero_add] at this
    rw [this]
    exact h2
  · refine Or.inr ⟨i, rfl, by omega, hi, fun j a b => by omega, ?_⟩
    have e := eg_next (g := g) h3 hi h2 h4
    have hc := cn_none hE (i - (l + 1)) (l + 1) (fun j a b => h4 j (by omega) (by omega))
    rw [show l + 1 + (i - (l + 1)) = i by omega, cn_s E l] at hc
    by_cases hq : l < 64
    · have hel := hE l hq
      dsimp only
      by_cases hcd : l + 2 ≤ i ∧ i ≤ l + g + 1
      · rw [if_pos (by omega), hc, if_pos (hel.mpr (e.mpr hcd)), h5]
        omega
      · rw [if_neg (by omega), hc, if_neg (fun z => hcd (e.mp (hel.mp z))), h5]
        omega
    · rw [bt_big _ (by omega)] at h3
      cases h3
theorem gSt_free {v E : Int64} {g i : Nat} (hi : bt v i = false) {st : Int × Int} (h : gSt v E i st) : gSt v E (i + 1) (gT v g st i) := by
  unfold gT
  rw [if_neg (by rw [hi]; exact fun q => by cases q)]
  rcases h with ⟨h1, h2, h3⟩ | ⟨l, h1, h2, h3, h4, h5⟩
  · refine Or.inl ⟨h1, h2, fun j hj => ?_⟩
    by_cases hji : j = i
    · subst hji; exact hi
    · exact h3 j (by omega)
  · refine Or.inr ⟨l, h1, by omega, h3, fun j a b => ?_, h5⟩
    by_cases hji : j = i
    · subst hji; exact hi
    · exact h4 j a (by omega)
theorem gSt_all {v E : Int64} {g : Nat} (hE : EG v g E) : ∀ (m i : Nat) (st : Int × Int), gSt v E i st → gSt v E (i + m) (itr (gT v g) m i st)
  | 0, _, _, h => h
  | m + 1, i, st, h => by
    rw [show i + (m + 1) = i + 1 + m by omega]
    refine gSt_all hE m (i + 1) _ ?_
    cases hb : bt v i with
    | true => exact gSt_busy hE hb h
    | false => exact gSt_free hb h
theorem gSt_end {v E : Int64} {g : Nat} (hE : EG v g E) (hv : nz v) {st : Int × Int} (h : gSt v E 60 st) : st.1 = cn E 64 := by
  have e64 : cn E 64 = cn E 60 := cn_none hE 4 60 (fun j a _ => hv j a)
  rw [e64]
  rcases h with ⟨h1, h2, h3⟩ | ⟨l, h1, h2, h3, h4, h5⟩
  · have := cn_none hE 60 0 (fun j _ h => h3 j (by omega))
    rw [Nat.zero_add] at this
    rw [this]
    exact h2
  · have hc := cn_none hE (60 - (l + 1)) (l + 1) (fun j a b => h4 j (by omega) (by omega))
    rw [show l + 1 + (60 - (l + 1)) = 60 by omega, cn_s E l] at hc
    have hn : ¬ bt E l = true := by
      rw [hE l (by omega)]
      rintro ⟨_, n, q1, q2, q3, q4⟩
      by_cases hz : l + n + 1 < 60
      · rw [h4 _ (by omega) hz] at q4; cases q4
      · rw [hv _ (by omega)] at q4; cases q4
    rw [hc, if_neg hn, h5]
    rfl
theorem gN_E {v E : Int64} {g : Nat} (hE : EG v g E) (hv : nz v) : gN v g = cn E 64 := by
  unfold gN
  have := gSt_all hE 60 0 (0, -1) (Or.inl ⟨rfl, rfl, fun j h => by omega⟩)
  exact gSt_end hE hv this
theorem X1_countGaps {fl : Nat} (hfl : 1000 ≤ fl) {s : Mem} {v : Int64} (hv : nz v) {g : Nat} (hg : iI s 0 7 = g) (hg1 : g ≤ 5) : F_X1_countGaps fl 0 v s = some (oI (gN v g)) := by
  obtain ⟨E, h1, h2⟩ := X1_gapEdges hfl v hg hg1
  unfold F_X1_countGaps
  rw [h1]
  simp only [bd_some, bc_cn]
  rw [gN_E h2 hv]
-- the class's ways through a set of nights
theorem X7_holds {fl : Nat} {s : Mem} (v : Int64) {x : Int} (h1 : -2147483648 ≤ x) (h2 : x < 2147483648) : F_X7_holds fl v (oI x) s = some (oB (0 ≤ x ∧ x < 60 ∧ bt v x.toNat = true)) := by
  unfold F_X7_holds
  by_cases hx : 0 ≤ x ∧ x < 60
  · obtain ⟨k, rfl⟩ : ∃ k : Nat, x = k := ⟨x.toNat, by omega⟩
    simp (disch := omega) only [bd_some, nx_eq, xb_r, xb_l, xc_r, xc_l, oI_lit, oI_nI, oI_add, oI_sub, oI_mul, oI_neg, gI_oI, ldA_I, ldA_L, ldO_I, ldO_L, oB_z, oB_o, gd_oB, lgc0n, oI_litN, ← Int.natCast_add, ← Int.natCast_mul, Int.toNat_natCast, if_true, if_false, oI_le, oI_lt, oI_eq, oI_nat, oI_inR, gd_t, bit_uz]
    rw [if_neg (by omega), if_neg (by omega)]
    by_cases hb : bt v k = true
    · rw [if_neg (by rw [hb]; exact fun q => by cases q), oB_t ⟨by omega, by omega, hb⟩]
      rfl
    · rw [if_pos (Bf.mpr hb), oB_f (fun q => hb q.2.2)]
      rfl
  · rw [oB_f (fun q => hx ⟨q.1, q.2.1⟩)]
    simp (disch := omega) only [bd_some, nx_eq, xb_r, xb_l, xc_r, xc_l, oI_lit, oI_nI, oI_add, oI_sub, oI_mul, oI_neg, gI_oI, ldA_I, ldA_L, ldO_I, ldO_L, oB_z, oB_o, gd_oB, lgc0n, oI_litN, ← Int.natCast_add, ← Int.natCast_mul, Int.toNat_natCast, if_true, if_false, oI_le, oI_lt, oI_eq, oI_nat, oI_inR, gd_t]
    by_cases h0 : x < 0
    · rw [if_pos (by omega)]
    · rw [if_neg (by omega), if_pos (by omega)]
theorem X7_nightAtL {fl : Nat} {s : Mem} {v : Int64} {x : Int} (h1 : -2147483648 ≤ x) (h2 : x < 2147483648) : ∀ (m i k : Nat), i + m = 60 → m < k → (∀ j, j < i → bt v j = true → (cn v j : Int) ≠ x) →
    ∃ r : Nat, B_X7_nightAt_5 fl s k v (oI x) (oI (cn v i : Nat)) (oI i) = some (oI r) ∧ ((r < 60 ∧ bt v r = true ∧ (cn v r : Int) = x) ∨ (r = 60 ∧ ∀ j, j < 60 → bt v j = true → (cn v j : Int) ≠ x)) := by
  intro m
  induction m with
  | zero =>
    intro i k h hk hn
    obtain ⟨k, rfl⟩ : ∃ k', k = k' + 1 := ⟨k - 1, by omega⟩
    refine ⟨60, ?_, Or.inr ⟨rfl, by rw [show (60 : Nat) = i by omega]; exact hn⟩⟩
    unfold B_X7_nightAt_5
    simp (disch := omega) only [bd_some, nx_eq, xb_r, xb_l, xc_r, xc_l, oI_lit, oI_nI, oI_add, oI_sub, oI_mul, oI_neg, gI_oI, ldA_I, ldA_L, ldO_I, ldO_L, oB_z, oB_o, gd_oB, lgc0n, oI_litN, ← Int.natCast_add, ← Int.natCast_mul, Int.toNat_natCast, if_true, if_false, oI_le, oI_lt, oI_eq, oI_nat, oI_inR, gd_t]
    rw [if_pos (by omega)]
  | succ m ih =>
    intro i k h hk hn
    obtain ⟨k, rfl⟩ : ∃ k', k = k' + 1 := ⟨k - 1, by omega⟩
    have hc := cn_le v i
    unfold B_X7_nightAt_5 B_X7_nightAt_32
    simp (disch := omega) only [bd_some, nx_eq, xb_r, xb_l, xc_r, xc_l, oI_lit, oI_nI, oI_add, oI_sub, oI_mul, oI_neg, gI_oI, ldA_I, ldA_L, ldO_I, ldO_L, oB_z, oB_o, gd_oB, lgc0n, oI_litN, ← Int.natCast_add, ← Int.natCast_mul, Int.toNat_natCast, if_true, if_false, oI_le, oI_lt, oI_eq, oI_nat, oI_inR, gd_t, X7_holds]
    rw [if_neg (by omega)]
    cases hb : bt v i with
    | false =>
      rw [if_pos (fun q => (by cases q.2.2))]
      obtain ⟨r, g1, g2⟩ := ih (i + 1) k (by omega) (by omega) (fun j hj hj2 => by
        by_cases hji : j = i
        · subst hji; rw [hb] at hj2; cases hj2
        · exact hn j (by omega) hj2)
      rw [cn_s, hb] at g1
      exact ⟨r, g1, g2⟩
    | true =>
      rw [if_neg (fun q => q ⟨by omega, by omega, rfl⟩)]
      by_cases hx : (cn v i : Int) = x
      · rw [if_pos hx]
        exact ⟨i, rfl, Or.inl ⟨by omega, hb, hx⟩⟩
      · rw [if_neg hx]
        obtain ⟨r, g1, g2⟩ := ih (i + 1) k (by omega) (by omega) (fun j hj hj2 => by
          by_cases hji : j = i
          · subst hji; exact hx
          · exact hn j (by omega) hj2)
        rw [cn_s, hb] at g1
        exact ⟨r, g1, g2⟩
theorem X7_nightAt {fl : Nat} (hfl : 1000 ≤ fl) {s : Mem} (v : Int64) {x : Int} (h1 : -2147483648 ≤ x) (h2 : x < 2147483648) :
    ∃ r : Nat, F_X7_nightAt fl v (oI x) s = some (oI r) ∧ ((r < 60 ∧ bt v r = true ∧ (cn v r : Int) = x) ∨ (r = 60 ∧ ∀ j, j < 60 → bt v j = true → (cn v j : Int) ≠ x)) := by
  unfold F_X7_nightAt
  exact X7_nightAtL h1 h2 60 0 fl rfl (by omega) (fun j h => by omega)
theorem X7_nextBusyL {fl : Nat} {s : Mem} {v : Int64} : ∀ (m i k : Nat), i + m = 60 → m < k →
    ∃ r : Nat, B_X7_nextBusy_2 fl s k v (oI i) = some (oI r) ∧ i ≤ r ∧ r ≤ 60 ∧ (∀ j, i ≤ j → j < r → bt v j = false) ∧ (r < 60 → bt v r = true) := by
  intro m
  induction m with
  | zero =>
    intro i k h hk
    obtain ⟨k, rfl⟩ : ∃ k', k = k' + 1 := ⟨k - 1, by omega⟩
    refine ⟨i, ?_, by omega, by omega, fun j _ _ => by omega, fun _ => by omega⟩
    unfold B_X7_nextBusy_2
    simp (disch := omega) only [bd_some, nx_eq, xb_r, xb_l, xc_r, xc_l, oI_lit, oI_nI, oI_add, oI_sub, oI_mul, oI_neg, gI_oI, ldA_I, ldA_L, ldO_I, ldO_L, oB_z, oB_o, gd_oB, lgc0n, oI_litN, ← Int.natCast_add, ← Int.natCast_mul, Int.toNat_natCast, if_true, if_false, oI_le, oI_lt, oI_eq, oI_nat, oI_inR, gd_t]
    rw [if_pos (by omega)]
  | succ m ih =>
    intro i k h hk
    obtain ⟨k, rfl⟩ : ∃ k', k = k' + 1 := ⟨k - 1, by omega⟩
    unfold B_X7_nextBusy_2
    simp (disch := omega) only [bd_some, nx_eq, xb_r, xb_l, xc_r, xc_l, oI_lit, oI_nI, oI_add, oI_sub, oI_mul, oI_neg, gI_oI, ldA_I, ldA_L, ldO_I, ldO_L, oB_z, oB_o, gd_oB, lgc0n, oI_litN, ← Int.natCast_add, ← Int.natCast_mul, Int.toNat_natCast, if_true, if_false, oI_le, oI_lt, oI_eq, oI_nat, oI_inR, gd_t, X7_holds]
    rw [if_neg (by omega)]
    cases hb : bt v i with
    | false =>
      rw [if_pos (fun q => (by cases q.2.2))]
      obtain ⟨r, g1, g2, g3, g4, g5⟩ := ih (i + 1) k (by omega) (by omega)
      refine ⟨r, g1, by omega, g3, fun j h1 h2 => ?_, g5⟩
      by_cases hji : j = i
      · subst hji; exact hb
      · exact g4 j (by omega) h2
    | true =>
      rw [if_neg (fun q => q ⟨by omega, by omega, rfl⟩)]
      exact ⟨i, rfl, by omega, by omega, fun j _ _ => by omega, fun _ => hb⟩
theorem X7_nextBusy {fl : Nat} (hfl : 1000 ≤ fl) {s : Mem} (v : Int64) {i : Nat} (hi : i ≤ 60) :
    ∃ r : Nat, F_X7_nextBusy fl v (oI i) s = some (oI r) ∧ i ≤ r ∧ r ≤ 60 ∧ (∀ j, i ≤ j → j < r → bt v j = false) ∧ (r < 60 → bt v r = true) := by
  unfold F_X7_nextBusy
  exact X7_nextBusyL (60 - i) i fl (by omega) (by omega)
