-- m places hold the pitches below n that have P, by area and then by number
def SO (ar : Nat → Int) (P : Nat → Prop) (A : Nat → Int) (m n : Nat) : Prop := (∀ j, j < m → ∃ p : Nat, A j = p ∧ p < n ∧ P p) ∧ (∀ p, p < n → P p → ∃ j, j < m ∧ A j = p) ∧ ∀ j k, j < k → k < m → ∀ a b : Nat, A j = a → A k = b → ar a < ar b ∨ ar a = ar b ∧ a < b
-- n put in at its place
def IN (ar : Nat → Int) (A B : Nat → Int) (m n : Nat) : Prop := ∃ k, k ≤ m ∧ (∀ j, j < k → B j = A j) ∧ B k = n ∧ (∀ j, k ≤ j → j < m → B (j + 1) = A j) ∧ (∀ a : Nat, 0 < k → A (k - 1) = a → ar a ≤ ar n) ∧ ∀ j (a : Nat), k ≤ j → j < m → A j = a → ar n < ar a
theorem SO_skip {ar : Nat → Int} {P : Nat → Prop} {A : Nat → Int} {m n : Nat} (h : SO ar P A m n) (hn : ¬ P n) : SO ar P A m (n + 1) := by
  obtain ⟨h1, h2, h3⟩ := h
  refine ⟨fun j hj => ?_, fun p hp hP => ?_, h3⟩
  · obtain ⟨p, a, b, c⟩ := h1 j hj
    exact ⟨p, a, by omega, c⟩
  · by_cases e : p = n
    · subst e; exact absurd hP hn
    · exact h2 p (by omega) hP
theorem SO_in {ar : Nat → Int} {P : Nat → Prop} {A B : Nat → Int} {m n : Nat} (h : SO ar P A m n) (hn : P n) (hi : IN ar A B m n) : SO ar P B (m + 1) (n + 1) := by
  obtain ⟨h1, h2, h3⟩ := h
  obtain ⟨k, k1, k2, k3, k4, k5, k6⟩ := hi
  have g1 : ∀ j, j < k → ∃ p : Nat, A j = p ∧ B j = p ∧ p < n ∧ P p ∧ ar p ≤ ar n := by
    intro j hj
    obtain ⟨p, a, b, c⟩ := h1 j (by omega)
    obtain ⟨q, a', b', c'⟩ := h1 (k - 1) (by omega)
    have l := k5 q (by omega) a'
    refine ⟨p, a, by rw [k2 j hj, a], b, c, ?_⟩
    by_cases e : j = k - 1
    · subst e
      have : p = q := by omega
      subst this
      exact l
    · have := h3 j (k - 1) (by omega) (by omega) p q a a'
      omega
  have g2 : ∀ j, k < j → j < m + 1 → ∃ p : Nat, A (j - 1) = p ∧ B j = p ∧ p < n ∧ P p ∧ ar n < ar p := by
    intro j hj hjm
    obtain ⟨p, a, b, c⟩ := h1 (j - 1) (by omega)
    have e := k4 (j - 1) (by omega) (by omega)
    rw [show j - 1 + 1 = j by omega] at e
    exact ⟨p, a, by rw [e, a], b, c, k6 (j - 1) p (by omega) (by omega) a⟩
  refine ⟨fun j hj => ?_, fun p hp hP => ?_, fun j l hjl hl a b ha hb => ?_⟩
  · rcases Nat.lt_trichotomy j k with hk | hk | hk
    · obtain ⟨p, -, a, b, c, -⟩ := g1 j hk
      exact ⟨p, a, by omega, c⟩
    · subst hk
      exact ⟨n, k3, by omega, hn⟩
    · obtain ⟨p, -, a, b, c, -⟩ := g2 j hk hj
      exact ⟨p, a, by omega, c⟩
  · by_cases e : p = n
    · subst e
      exact ⟨k, by omega, k3⟩
    · obtain ⟨j, a, b⟩ := h2 p (by omega) hP
      by_cases hk : j < k
      · exact ⟨j, by omega, by rw [k2 j hk, b]⟩
      · exact ⟨j + 1, by omega, by rw [k4 j (by omega) a, b]⟩
  · rcases Nat.lt_trichotomy j k with hk | hk | hk
    · obtain ⟨p, p1, p2, p3, p4, p5⟩ := g1 j hk
      have : p = a := by omega
      subst this
      rcases Nat.lt_trichotomy l k with hl' | hl' | hl'
      · obtain ⟨q, q1, q2, -⟩ := g1 l hl'
        exact h3 j l hjl (by omega) p b p1 (by omega)
      · subst hl'
        have : b = n := by omega
        subst this
        omega
      · obtain ⟨q, q1, q2, -⟩ := g2 l hl' hl
        exact h3 j (l - 1) (by omega) (by omega) p b p1 (by omega)
    · subst hk
      have : a = n := by omega
      subst this
      obtain ⟨q, q1, q2, q3, q4, q5⟩ := g2 l hjl hl
      have : q = b := by omega
      subst this
      omega
    · obtain ⟨p, p1, p2, -⟩ := g2 j hk (by omega)
      obtain ⟨q, q1, q2, -⟩ := g2 l (by omega) hl
      exact h3 (j - 1) (l - 1) (by omega) (by omega) a b (by omega) (by omega)
def arM (M : Mem) (p : Nat) : Int := iI M 341 (8 + 5 * p + 1) * iI M 341 (8 + 5 * p + 2)
theorem arM_bd {M : Mem} (hv : VR (iI M 341)) {p : Nat} (hp : (p : Int) < iI M 341 0) : 0 ≤ arM M p ∧ arM M p ≤ 144 := by
  have d := VRp hv hp
  unfold VP at d
  unfold arM
  constructor
  · exact Int.mul_nonneg (by omega) (by omega)
  · exact Int.le_trans (Int.mul_le_mul (a := iI M 341 (8 + 5 * p + 1)) (c := 12) (b := iI M 341 (8 + 5 * p + 2)) (d := 12) (by omega) (by omega) (by omega) (by omega)) (by decide)
theorem X5_sort15 {fl : Nat} {A : Nat → Int} {n : Nat} {k2 : Nat → Int32 → Mem → Option Mem} : ∀ (v : Nat) (S : Mem) (f : Nat), v ≤ n → v < f → RO S → VR (iI S 341) → CR S 0 (iI S 341) → (n : Int) < iI S 341 0 → (∀ j, j < n → ∃ p : Nat, A j = p ∧ p < n) → (∀ j, j < v → iI S 333 j = A j) → (∀ j, v ≤ j → j < n → iI S 333 (j + 1) = A j) → (∀ j (a : Nat), v ≤ j → j < n → A j = a → arM S n < arM S a) →
    ∃ S', B_X5_sortPitches_15 k2 fl f 321 (oI n) (oI v) S = k2 321 (oI ((n + 1 : Nat) : Int)) S' ∧ FG S S' (fun k j => k = 333) ∧ IN (arM S) A (iI S' 333) n n := by
  intro v
  induction v with
  | zero =>
    intro S f hv hf hs hvr hc hn hA h1 h2 h3
    obtain ⟨f, rfl⟩ : ∃ f', f = f' + 1 := ⟨f - 1, by omega⟩
    have bn := VRn hvr
    unfold VN at bn
    obtain ⟨S1, e1, F1, y1⟩ := stI S 333 0 (v := n) (by omega) (by omega)
    refine ⟨S1, ?_, FG_mono F1 (by omega), 0, by omega, fun j hj => by omega, y1, fun j _ hj => ?_, fun a h => by omega, fun j a _ hj e => h3 j a (by omega) hj e⟩
    · unfold B_X5_sortPitches_15 B_X5_sortPitches_65
      rw [if_pos (by decide), ld_321_13 hs, bd_some, gd_t (by decide), nx_eq]
      dsimp only
      rw [show (oI ((0 : Nat) : Int)).toNatClampNeg = 0 from by decide, e1, show oI (n : Int) + 1 = oI ((n + 1 : Nat) : Int) from by rw [oI_lit, oI_add]; rfl]
    · rw [FG_I F1 (by omega)]
      exact h2 j (by omega) hj
  | succ v ih =>
    intro S f hv hf hs hvr hc hn hA h1 h2 h3
    obtain ⟨f, rfl⟩ : ∃ f', f = f' + 1 := ⟨f - 1, by omega⟩
    have bn := VRn hvr
    unfold VN at bn
    obtain ⟨p, p1, p2⟩ := hA v (by omega)
    have ep := h1 v (by omega)
    have b1 := arM_bd hvr (p := p) (by omega)
    have b2 := arM_bd hvr hn
    have ev : oI ((v + 1 : Nat) : Int) - 1 = oI (v : Int) := by rw [oI_lit, oI_sub]; congr 1; omega
    have en : oI (n : Int) + 1 = oI ((n + 1 : Nat) : Int) := by rw [oI_lit, oI_add]; rfl
    have tv : (oI (v : Int)).toNatClampNeg = v := by rw [oI_nat (by omega) (by omega)]; rfl
    have tv1 : (oI ((v + 1 : Nat) : Int)).toNatClampNeg = v + 1 := by rw [oI_nat (by omega) (by omega)]; rfl
    have head : ∀ (r : Option Mem) (g : Option Mem), (if oI ((v + 1 : Nat) : Int) ≤ 0 then r else bd (ldO S 321 0 3) fun r7 => bd (ldA S 321 13 0) fun r9 => gd (inR (oI ((v + 1 : Nat) : Int) - (1 : Int32)) r9.2) <| bd (F_X1_areaOf fl r7 (gI S r9.1 (oI ((v + 1 : Nat) : Int) - (1 : Int32)).toNatClampNeg) S) fun q12 => bd (ldO S 321 0 3) fun r14 => bd (F_X1_areaOf fl r14 (oI n) S) fun q16 => if q12 ≤ q16 then r else g) = (if arM S p ≤ arM S n then r else g) := by
      intro r g
      rw [if_neg (by rw [show (0 : Int32) = oI 0 from rfl, oI_le (by omega) (by omega) (by omega) (by omega)]; omega), ld_321_0 hs, bd_some, ld_321_13 hs, bd_some, ev, gd_t ((oI_inR (by omega) (by omega)).mpr (by omega))]
      dsimp only
      rw [tv, show gI S 333 v = oI (p : Int) from by rw [gI_oI, ep, p1], X1_areaOf hs hc (by omega) (by omega), bd_some, bd_some, X1_areaOf hs hc hn (by omega), bd_some]
      show (if oI (arM S p) ≤ oI (arM S n) then r else g) = _
      by_cases hle : arM S p ≤ arM S n
      · rw [if_pos hle, if_pos (by rw [oI_le (by omega) (by omega) (by omega) (by omega)]; exact hle)]
      · rw [if_neg hle, if_neg (by rw [oI_le (by omega) (by omega) (by omega) (by omega)]; exact hle)]
    by_cases hle : arM S p ≤ arM S n
    · obtain ⟨S1, e1, F1, y1⟩ := stI S 333 (v + 1) (v := n) (by omega) (by omega)
      refine ⟨S1, ?_, FG_mono F1 (by omega), v + 1, hv, fun j hj => ?_, y1, fun j hj hj2 => ?_, fun a _ e => ?_, h3⟩
      · unfold B_X5_sortPitches_15
        rw [head, if_pos hle]
        unfold B_X5_sortPitches_65
        rw [ld_321_13 hs, bd_some, gd_t ((oI_inR (by omega) (by omega)).mpr (by omega)), nx_eq]
        dsimp only
        rw [tv1, e1, en]
      · rw [FG_I F1 (by omega)]; exact h1 j hj
      · rw [FG_I F1 (by omega)]; exact h2 j hj hj2
      · have : a = p := by
          rw [show v + 1 - 1 = v by omega] at e
          omega
        subst this
        exact hle
    · obtain ⟨S1, e1, F1, y1⟩ := stI S 333 (v + 1) (v := p) (by omega) (by omega)
      have e41 : ∀ k, iI S1 341 k = iI S 341 k := fun k => FG_I F1 (by omega)
      have e41' : iI S1 341 = iI S 341 := funext e41
      have ear : arM S1 = arM S := funext fun q => by unfold arM; rw [e41, e41]
      obtain ⟨S', g1, g2, g3⟩ := ih S1 f (by omega) (by omega) (FG_RO F1 hs) (by rw [e41']; exact hvr) (Cmp_FG F1 (by omega) ⟨hvr, hc⟩).2 (by rw [e41]; exact hn) hA (fun j hj => by rw [FG_I F1 (by omega)]; exact h1 j (by omega)) (fun j hj hj2 => by
        by_cases e : j = v
        · subst e; rw [y1, p1]
        · rw [FG_I F1 (by omega)]; exact h2 j (by omega) hj2) (fun j a hj hj2 e => by
        rw [ear]
        by_cases e' : j = v
        · subst e'
          have : a = p := by omega
          subst this
          omega
        · exact h3 j a (by omega) hj2 e)
      refine ⟨S', ?_, FG_trans (FG_mono F1 (by omega)) g2, by rw [← ear]; exact g3⟩
      unfold B_X5_sortPitches_15
      rw [head, if_neg hle, ld_321_13 hs, bd_some, bd_some, ev, gd_t ((oI_inR (by omega) (by omega)).mpr (by omega)), gd_t ((oI_inR (by omega) (by omega)).mpr (by omega)), nx_eq]
      dsimp only
      rw [tv, tv1, show gI S 333 v = oI (p : Int) from by rw [gI_oI, ep, p1], e1, show oI ((v + 1 : Nat) : Int) + -1 = oI (v : Int) from by rw [m1_o, oI_add]; congr 1; omega]
      exact g1
theorem X5_sort2 {fl : Nat} (hfl : 1000 ≤ fl) : ∀ (m i : Nat) (S : Mem) (f : Nat), RO S → VR (iI S 341) → CR S 0 (iI S 341) → iI S 341 0 = ((i + m : Nat) : Int) → m < f → SO (arM S) (fun _ => True) (iI S 333) i i →
    ∃ S', B_X5_sortPitches_2 fl f 321 (oI i) S = some S' ∧ FG S S' (fun k j => k = 333) ∧ SO (arM S) (fun _ => True) (iI S' 333) (i + m) (i + m) := by
  intro m
  induction m with
  | zero =>
    intro i S f hs hv hc h hf hA
    obtain ⟨f, rfl⟩ : ∃ f', f = f' + 1 := ⟨f - 1, by omega⟩
    have bn := VRn hv
    unfold VN at bn
    refine ⟨S, ?_, FG_refl _ _, hA⟩
    unfold B_X5_sortPitches_2
    rw [ld_321_0 hs, bd_some, show gI S 0 1 = oI (i : Int) from by rw [gI_oI, c_pc hc, h]; rfl, if_pos (by rw [oI_le (by omega) (by omega) (by omega) (by omega)]; omega)]
  | succ m ih =>
    intro i S f hs hv hc h hf hA
    obtain ⟨f, rfl⟩ : ∃ f', f = f' + 1 := ⟨f - 1, by omega⟩
    have bn := VRn hv
    unfold VN at bn
    obtain ⟨S1, e1, F1, y1⟩ := X5_sort15 (fl := fl) (A := iI S 333) (n := i) (k2 := B_X5_sortPitches_2 fl f) i S fl (Nat.le_refl _) (by omega) hs hv hc (by omega) (fun j hj => by
      obtain ⟨p, a, b, -⟩ := hA.1 j hj
      exact ⟨p, a, b⟩) (fun j _ => rfl) (fun j h1 h2 => by omega) (fun j a h1 h2 => by omega)
    have e41 : ∀ k, iI S1 341 k = iI S 341 k := fun k => FG_I F1 (by omega)
    have e41' : iI S1 341 = iI S 341 := funext e41
    have ear : arM S1 = arM S := funext fun q => by unfold arM; rw [e41, e41]
    obtain ⟨S', g1, g2, g3⟩ := ih (i + 1) S1 f (FG_RO F1 hs) (by rw [e41']; exact hv) (Cmp_FG F1 (by omega) ⟨hv, hc⟩).2 (by rw [e41, h]; congr 1; omega) (by omega) (by rw [ear]; exact SO_in hA trivial y1)
    refine ⟨S', ?_, FG_trans F1 g2, by rw [← ear, show i + (m + 1) = i + 1 + m by omega]; exact g3⟩
    unfold B_X5_sortPitches_2
    rw [ld_321_0 hs, bd_some, show gI S 0 1 = oI ((i + (m + 1) : Nat) : Int) from by rw [gI_oI, c_pc hc, h], if_neg (by rw [oI_le (by omega) (by omega) (by omega) (by omega)]; omega), e1]
    exact g1
theorem X5_sortPitches {fl : Nat} (hfl : 1000 ≤ fl) {S : Mem} (hs : RO S) (hv : VR (iI S 341)) (hc : CR S 0 (iI S 341)) : ∃ S', F_X5_sortPitches fl 321 S = some S' ∧ FG S S' (fun k j => k = 333) ∧ SO (arM S) (fun _ => True) (iI S' 333) (iI S 341 0).toNat (iI S 341 0).toNat := by
  have bn := VRn hv
  unfold VN at bn
  unfold F_X5_sortPitches
  have := X5_sort2 (fl := fl) hfl (iI S 341 0).toNat 0 S fl hs hv hc (by omega) (by omega) ⟨fun j h => by omega, fun p h => by omega, fun j k h1 h2 => by omega⟩
  rw [Nat.zero_add] at this
  exact this
