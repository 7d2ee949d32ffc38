theorem PLC_bd {M : Mem} {t : Nat → Int} {W D : Nat → Nat} (ht : ∀ q, q ≤ 12 → -1 ≤ t q ∧ t q < iI M 341 0) : ∀ k, (∀ i, i < k → (D i : Int) < iI M 341 0) → ∀ q, q ≤ 12 → -1 ≤ PLC t W D k q ∧ PLC t W D k q < iI M 341 0
  | 0, _, q, hq => ht q hq
  | k + 1, h, q, hq => by
    show -1 ≤ up (PLC t W D k) (W k) (D k) q ∧ up (PLC t W D k) (W k) (D k) q < iI M 341 0
    by_cases e : q = W k
    · subst e
      rw [up_e]
      have := h k (by omega)
      omega
    · rw [up_n e]
      exact PLC_bd ht k (fun i hi => h i (by omega)) q hq
theorem mvM_b {M : Mem} (hM : MB M) {q p : Nat} (h : mvO M (iI M 342) q p) : q < 12 ∧ (p : Int) < iI M 341 0 ∧ p < 6 := by
  have bn := VRn hM.1
  unfold VN at bn
  have h1 := h.1
  have h2 := h.2.1
  omega
theorem X8_plans0 {fl n : Nat} (hfl : 1000 ≤ fl) {M M1 : Mem} (hM : MB M) {c g k1 k2 : Nat} {mv : Nat → Nat} {x : Int32} (hc : c ≤ 2) (hg : (g : Int) < iI M 341 0) (h1 : 1 ≤ c → mvO M (iI M 342) (k1 / 6) (k1 % 6)) (h2 : 2 ≤ c → mvO M (iI M 342) (k2 / 6) (k2 % 6) ∧ k1 / 6 < k2 / 6) (hR : RSt M M1 (PT M (W2 k1 k2) (D2 g k1 k2) c) c mv) (hm : ∀ i, i < c → mv i = W2 k1 k2 (i + 1)) :
    ∃ b, F_X8_plans fl (n + 1) 340 x 0 M1 = some (b, M1) ∧ (b = 1 ∧ RC M (W2 k1 k2) (D2 g k1 k2) c ∨ b = 0 ∧ ¬ RC M (W2 k1 k2) (D2 g k1 k2) c) := by
  have hW : inj (W2 k1 k2) c := W2_inj (M := M) hc (fun z => (mvM_b hM (h1 z)).1) (fun z => ⟨(mvM_b hM (h2 z).1).1, (h2 z).2⟩)
  have dD : ∀ i, i < c + 1 → (D2 g k1 k2 i : Int) < iI M 341 0 := by
    intro i hi
    have : i = 0 ∨ i = 1 ∨ i = 2 := by omega
    rcases this with rfl | rfl | rfl
    · exact hg
    · exact (mvM_b hM (h1 (by omega))).2.1
    · exact (mvM_b hM (h2 (by omega)).1).2.1
  obtain ⟨b, g1, g2⟩ := X8_isRight (fl := fl) hfl (W := W2 k1 k2) hM (RSt_cg (fun _ _ => rfl) (fun i hi => (hm i hi).symm) hR) hc rfl (fun i hi => by
      have : i = 0 ∨ i = 1 ∨ i = 2 := by omega
      rcases this with rfl | rfl | rfl
      · exact Nat.le_refl _
      · have := (mvM_b hM (h1 (by omega))).1
        show k1 / 6 ≤ 12
        omega
      · have := (mvM_b hM (h2 (by omega)).1).1
        show k2 / 6 ≤ 12
        omega) (PLC_bd hM.2.2.2 (c + 1) dD) (fun i hi => by
      have := PLC_m (t := iI M 342) (D := D2 g k1 k2) hW (c + 1) i (by omega) (by omega)
      show 0 ≤ PLC (iI M 342) (W2 k1 k2) (D2 g k1 k2) (c + 1) (W2 k1 k2 i)
      omega)
  refine ⟨b, ?_, g2⟩
  show G_X8_plans (F_X8_plans fl n) fl 340 x 0 M1 = _
  unfold G_X8_plans
  rw [if_pos rfl, g1, bd_some]
  dsimp only
  rcases g2 with ⟨rfl, -⟩ | ⟨rfl, -⟩
  · rw [gd_t (Or.inr rfl)]
  · rw [gd_t (Or.inl rfl)]
def PL (M M2 : Mem) (g c : Nat) (mv : Nat → Nat) (r : Int32) : Prop := (r = 1 ∧ ∃ k1 k2, okL M c g k1 k2 ∧ (∀ a b, okL M c g a b → k1 < a ∨ k1 = a ∧ k2 ≤ b) ∧ RSt M M2 (PT M (W2 k1 k2) (D2 g k1 k2) c) c (fun i => W2 k1 k2 (i + 1))) ∨ (r = 0 ∧ (∀ a b, ¬ okL M c g a b) ∧ RSt M M2 (up (iI M 342) 12 g) 0 mv)
theorem X8_plans_0 {fl : Nat} (hfl : 1000 ≤ fl) {M M1 : Mem} (hM : MB M) {g : Nat} {mv : Nat → Nat} (hg : (g : Int) < iI M 341 0) (hR : RSt M M1 (up (iI M 342) 12 g) 0 mv) : ∃ M2 r, F_X8_plans fl 4 340 0 0 M1 = some (r, M2) ∧ FI M1 M2 rsC ∧ PL M M2 g 0 mv r := by
  obtain ⟨b, g1, g2⟩ := X8_plans0 (fl := fl) (n := 3) hfl hM (c := 0) (g := g) (k1 := 0) (k2 := 0) (mv := mv) (x := 0) (by omega) hg (fun h => by omega) (fun h => by omega) hR (fun i hi => by omega)
  refine ⟨M1, b, g1, FI_refl _ _, ?_⟩
  rcases g2 with ⟨rfl, h⟩ | ⟨rfl, h⟩
  · exact Or.inl ⟨rfl, 0, 0, ⟨⟨fun h => by omega, fun h => by omega, h⟩, fun _ => rfl, fun _ => rfl⟩, fun a b _ => by omega, RSt_cg (fun _ _ => rfl) (fun i hi => by omega) hR⟩
  · refine Or.inr ⟨rfl, fun a b ho => ?_, hR⟩
    have ha := ho.2.1 rfl
    have hb := ho.2.2 (by omega)
    subst ha hb
    exact h ho.1.2.2
theorem X8_plans_1 {fl : Nat} (hfl : 1000 ≤ fl) {M M1 : Mem} (hM : MB M) {g : Nat} {mv : Nat → Nat} (hg : (g : Int) < iI M 341 0) (hR : RSt M M1 (up (iI M 342) 12 g) 0 mv) : ∃ M2 r, F_X8_plans fl 4 340 0 1 M1 = some (r, M2) ∧ FI M1 M2 rsC ∧ PL M M2 g 1 mv r := by
  have bn := VRn hM.1
  unfold VN at bn
  have L := X8_level11 (fl := fl) hfl (t := up (iI M 342) 12 g) (d := 0) (f0 := 0) (mv := mv) (mo := 1) (self := F_X8_plans fl 3) (Fd := fun k M2 => RC M (W2 k 0) (D2 g k 0) 1 ∧ RSt M M2 (PT M (W2 k 0) (D2 g k 0) 1) 1 (fun i => W2 k 0 (i + 1))) (NF := fun k => ¬ RC M (W2 k 0) (D2 g k 0) 1) hM (by omega) (fun q _ hq => up_n (by omega)) (fun k M1 _ hk12 hm hR1 => by
      have hR2 : RSt M M1 (PT M (W2 k 0) (D2 g k 0) 1) 1 (fun i => W2 k 0 (i + 1)) := RSt_cg (fun _ _ => rfl) (fun i hi => by
        have : i = 0 := by omega
        subst this
        exact (mvU_e mv 0 (k / 6)).symm) hR1
      obtain ⟨b, g1, g2⟩ := X8_plans0 (fl := fl) (n := 2) hfl hM (c := 1) (g := g) (k1 := k) (k2 := 0) (x := oI ((k / 6 + 1 : Nat) : Int)) (by omega) hg (fun _ => hm) (fun h => by omega) hR2 (fun i hi => rfl)
      refine ⟨M1, b, g1, FI_refl _ _, ?_⟩
      rcases g2 with ⟨rfl, h⟩ | ⟨rfl, h⟩
      · exact Or.inl ⟨rfl, h, hR2⟩
      · exact Or.inr ⟨rfl, h, hR1⟩) 12 0 M1 fl (by omega) (by omega) (by omega) (by omega) hR (fun k _ h => by omega)
  have e : F_X8_plans fl 4 340 0 1 M1 = B_X8_plans_11 (F_X8_plans fl 3) fl fl 340 1 (oI ((0 : Nat) : Int)) M1 := by
    show G_X8_plans (F_X8_plans fl 3) fl 340 0 1 M1 = _
    unfold G_X8_plans
    rw [if_neg (by decide)]
    rfl
  rcases L with ⟨M2, k, a1, a2, a3, a4, ⟨a5, a6⟩, a7⟩ | ⟨M2, a1, a2, a3, a4⟩
  · refine ⟨M2, 1, e.trans a1, a2, Or.inl ⟨rfl, k, 0, ⟨⟨fun _ => a4, fun h => by omega, a5⟩, fun h => by omega, fun _ => rfl⟩, fun a b ho => ?_, a6⟩⟩
    have hb := ho.2.2 (by omega)
    subst hb
    by_cases hak : a < k
    · exact absurd ho.1.2.2 (a7 a (by omega) hak (ho.1.1 (by omega)))
    · omega
  · refine ⟨M2, 0, e.trans a1, a2, Or.inr ⟨rfl, fun a b ho => ?_, a3⟩⟩
    have hb := ho.2.2 (by omega)
    subst hb
    have hm := ho.1.1 (by omega)
    have := hm.1
    exact a4 a (by omega) (by omega) hm ho.1.2.2
theorem X8_plans_2 {fl : Nat} (hfl : 1000 ≤ fl) {M M1 : Mem} (hM : MB M) {g : Nat} {mv : Nat → Nat} (hg : (g : Int) < iI M 341 0) (hR : RSt M M1 (up (iI M 342) 12 g) 0 mv) : ∃ M2 r, F_X8_plans fl 4 340 0 2 M1 = some (r, M2) ∧ FI M1 M2 rsC ∧ PL M M2 g 2 mv r := by
  have bn := VRn hM.1
  unfold VN at bn
  have L := X8_level11 (fl := fl) hfl (t := up (iI M 342) 12 g) (d := 0) (f0 := 0) (mv := mv) (mo := 2) (self := F_X8_plans fl 3) (Fd := fun k M2 => ∃ k2, okK M 2 g k k2 ∧ (∀ k2', k2' < k2 → ¬ okK M 2 g k k2') ∧ RSt M M2 (PT M (W2 k k2) (D2 g k k2) 2) 2 (fun i => W2 k k2 (i + 1))) (NF := fun k => ∀ k2, ¬ okK M 2 g k k2) hM (by omega) (fun q _ hq => up_n (by omega)) (fun k M1 _ hk12 hm hR1 => by
      have L2 := X8_level11 (fl := fl) hfl (t := up (up (iI M 342) 12 g) (k / 6) (k % 6 : Nat)) (d := 1) (f0 := k / 6 + 1) (mv := mvU mv 0 (k / 6)) (mo := 1) (self := F_X8_plans fl 2) (Fd := fun k2 M2 => RC M (W2 k k2) (D2 g k k2) 2 ∧ RSt M M2 (PT M (W2 k k2) (D2 g k k2) 2) 2 (fun i => W2 k k2 (i + 1))) (NF := fun k2 => ¬ RC M (W2 k k2) (D2 g k k2) 2) hM (by omega) (fun q h1 hq => by rw [up_n (by omega), up_n (by omega)]) (fun k2 M1 hf hk12 hm2 hR1 => by
        have hR2 : RSt M M1 (PT M (W2 k k2) (D2 g k k2) 2) 2 (fun i => W2 k k2 (i + 1)) := RSt_cg (fun _ _ => rfl) (fun i hi => by
          have : i = 0 ∨ i = 1 := by omega
          rcases this with rfl | rfl
          · rw [mvU_n (by omega), mvU_e]; rfl
          · rw [mvU_e]; rfl) hR1
        obtain ⟨b, g1, g2⟩ := X8_plans0 (fl := fl) (n := 1) hfl hM (c := 2) (g := g) (k1 := k) (k2 := k2) (x := oI ((k2 / 6 + 1 : Nat) : Int)) (by omega) hg (fun _ => hm) (fun h => ⟨hm2, by omega⟩) hR2 (fun i hi => rfl)
        refine ⟨M1, b, g1, FI_refl _ _, ?_⟩
        rcases g2 with ⟨rfl, h⟩ | ⟨rfl, h⟩
        · exact Or.inl ⟨rfl, h, hR2⟩
        · exact Or.inr ⟨rfl, h, hR1⟩) 12 (k / 6 + 1) M1 fl (by omega) (by omega) (by omega) (by omega) hR1 (fun k2 h1 h2 => by omega)
      have e2 : F_X8_plans fl 3 340 (oI ((k / 6 + 1 : Nat) : Int)) (2 - 1) M1 = B_X8_plans_11 (F_X8_plans fl 2) fl fl 340 1 (oI ((k / 6 + 1 : Nat) : Int)) M1 := by
        show G_X8_plans (F_X8_plans fl 2) fl 340 (oI ((k / 6 + 1 : Nat) : Int)) (2 - 1) M1 = _
        unfold G_X8_plans
        rw [if_neg (by decide)]
        rfl
      rcases L2 with ⟨M2, k2, a1, a2, a3, a4, ⟨a5, a6⟩, a7⟩ | ⟨M2, a1, a2, a3, a4⟩
      · refine ⟨M2, 1, e2.trans a1, a2, Or.inl ⟨rfl, k2, ⟨fun _ => hm, fun _ => ⟨a4, by omega⟩, a5⟩, fun k2' hk ho => ?_, a6⟩⟩
        have := (ho.2.1 (by omega)).2
        exact a7 k2' (by omega) hk (ho.2.1 (by omega)).1 ho.2.2
      · refine ⟨M2, 0, e2.trans a1, a2, Or.inr ⟨rfl, fun k2' ho => ?_, a3⟩⟩
        have h1 := ho.2.1 (by omega)
        have := h1.1.1
        exact a4 k2' (by omega) (by omega) h1.1 ho.2.2) 12 0 M1 fl (by omega) (by omega) (by omega) (by omega) hR (fun k _ h => by omega)
  have e : F_X8_plans fl 4 340 0 2 M1 = B_X8_plans_11 (F_X8_plans fl 3) fl fl 340 2 (oI ((0 : Nat) : Int)) M1 := by
    show G_X8_plans (F_X8_plans fl 3) fl 340 0 2 M1 = _
    unfold G_X8_plans
    rw [if_neg (by decide)]
    rfl
  rcases L with ⟨M2, k, a1, a2, a3, a4, ⟨k2, a5, a6, a7⟩, a8⟩ | ⟨M2, a1, a2, a3, a4⟩
  · refine ⟨M2, 1, e.trans a1, a2, Or.inl ⟨rfl, k, k2, ⟨a5, fun h => by omega, fun h => by omega⟩, fun a b ho => ?_, a7⟩⟩
    by_cases hak : a < k
    · exact absurd ho.1 (a8 a (by omega) hak (ho.1.1 (by omega)) b)
    · by_cases hae : a = k
      · subst hae
        have : ¬ b < k2 := fun z => a6 b z ho.1
        omega
      · omega
  · refine ⟨M2, 0, e.trans a1, a2, Or.inr ⟨rfl, fun a b ho => ?_, a3⟩⟩
    have hm := ho.1.1 (by omega)
    have := hm.1
    exact a4 a (by omega) (by omega) hm b ho.1
theorem X8_plans {fl : Nat} (hfl : 1000 ≤ fl) {M M1 : Mem} (hM : MB M) {g c : Nat} {mv : Nat → Nat} (hc : c ≤ 2) (hg : (g : Int) < iI M 341 0) (hR : RSt M M1 (up (iI M 342) 12 g) 0 mv) : ∃ M2 r, F_X8_plans fl 4 340 0 (oI c) M1 = some (r, M2) ∧ FI M1 M2 rsC ∧ PL M M2 g c mv r := by
  have : c = 0 ∨ c = 1 ∨ c = 2 := by omega
  rcases this with rfl | rfl | rfl
  · exact X8_plans_0 hfl hM hg hR
  · exact X8_plans_1 hfl hM hg hR
  · exact X8_plans_2 hfl hM hg hR
