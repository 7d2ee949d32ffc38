-- the reference's questions over a place of each party, t; M holds the row and the stays
def moT (M : Mem) (t : Nat → Int) (p w : Int) : Int64 := itr (fun a q => a ||| (if t q = p ∧ (q : Int) ≠ w then mI (iI M 343 q) (iI M 344 q) else 0)) 13 0 0
theorem mo_T (M : Mem) (p w : Int) : mo M p w = moT M (iI M 342) p w := rfl
def ciM (M : Mem) (p : Int) : Int := iI M 341 (8 + 5 * p.toNat + 3)
def pwH (M : Mem) (t : Nat → Int) (c n : Int) (q : Nat) : Int := if 0 ≤ t q ∧ ciM M (t q) = c ∧ iI M 343 q ≤ n ∧ n ≤ iI M 343 q + iI M 344 q - 1 then iI M 345 q else 0
def pwT (M : Mem) (t : Nat → Int) (c n : Int) : Int := sm (pwH M t c n) 13 0
theorem pw_T (M : Mem) (c n : Int) : pw M c n = pwT M (iI M 342) c n := rfl
def gaT (M : Mem) (t : Nat → Int) : Int := sm (fun p => gN (moT M t p (-1)) (iI M 341 4)) (iI M 341 0).toNat 0
theorem gA_T (M : Mem) : gA M = gaT M (iI M 342) := rfl
abbrev alT (M : Mem) (t : Nat → Int) (q : Nat) : Prop := moT M t (t q) q &&& mI (iI M 343 q) (iI M 344 q) = 0
theorem al_T (M : Mem) (q : Nat) : alP M q ↔ alT M (iI M 342) q := Iff.rfl
abbrev hpT (M : Mem) (t : Nat → Int) (q : Nat) : Prop := ciM M (t q) < 0 ∨ ∀ j, j < (iI M 344 q).toNat → pwT M t (ciM M (t q)) (iI M 343 q + j) ≤ iI M 341 (5 + (ciM M (t q)).toNat)
theorem hp_T (M : Mem) (q : Nat) : hpP M q ↔ hpT M (iI M 342) q := Iff.rfl
abbrev slT (M : Mem) (t : Nat → Int) : Prop := askd M (iI M 343 12) (iI M 344 12) ≤ iI M 344 12 ∨ (1 ≤ iI M 343 12 ∧ iI M 343 12 + iI M 344 12 < 60 ∧ bt (moT M t (t 12) 12) (iI M 343 12 - 1).toNat = true ∧ bt (moT M t (t 12) 12) (iI M 343 12 + iI M 344 12).toNat = true)
theorem sl_T (M : Mem) : slP M ↔ slT M (iI M 342) := Iff.rfl
def RT (M : Mem) (t : Nat → Int) (mv : List Nat) (gb : Int) : Prop := alT M t 12 ∧ (∀ q, q ∈ mv → alT M t q) ∧ hpT M t 12 ∧ slT M t ∧ (∀ q, q ∈ mv → hpT M t q) ∧ gaT M t ≤ gb
def up (t : Nat → Int) (q : Nat) (p : Int) : Nat → Int := fun x => if x = q then p else t x
theorem up_e (t : Nat → Int) (q : Nat) (p : Int) : up t q p q = p := if_pos rfl
theorem up_n {t : Nat → Int} {q x : Nat} {p : Int} (h : x ≠ q) : up t q p x = t x := if_neg h
-- what is asked is the same where row, stays and places are
def AG (M M' : Mem) : Prop := (∀ k, iI M' 341 k = iI M 341 k) ∧ ∀ q, q ≤ 12 → iI M' 343 q = iI M 343 q ∧ iI M' 344 q = iI M 344 q ∧ iI M' 345 q = iI M 345 q
theorem AG_refl (M : Mem) : AG M M := ⟨fun _ => rfl, fun _ _ => ⟨rfl, rfl, rfl⟩⟩
theorem AG_symm {M M' : Mem} (h : AG M M') : AG M' M := ⟨fun k => (h.1 k).symm, fun q hq => ⟨(h.2 q hq).1.symm, (h.2 q hq).2.1.symm, (h.2 q hq).2.2.symm⟩⟩
theorem AG_trans {M M' M'' : Mem} (h : AG M M') (h2 : AG M' M'') : AG M M'' := ⟨fun k => (h2.1 k).trans (h.1 k), fun q hq => ⟨(h2.2 q hq).1.trans (h.2 q hq).1, (h2.2 q hq).2.1.trans (h.2 q hq).2.1, (h2.2 q hq).2.2.trans (h.2 q hq).2.2⟩⟩
theorem AG_FI {M M' : Mem} {C : Nat → Nat → Prop} (h : FI M M' C) (h1 : ∀ k j, C k j → k ≠ 341 ∧ k ≠ 343 ∧ k ≠ 344 ∧ k ≠ 345) : AG M M' := by
  refine ⟨fun k => h.2 _ _ (fun c => (h1 _ _ c).1 rfl), fun q _ => ⟨h.2 _ _ (fun c => (h1 _ _ c).2.1 rfl), h.2 _ _ (fun c => (h1 _ _ c).2.2.1 rfl), h.2 _ _ (fun c => (h1 _ _ c).2.2.2 rfl)⟩⟩
theorem moT_cg {M M' : Mem} {t t' : Nat → Int} (h : AG M M') (ht : ∀ q, q ≤ 12 → t' q = t q) (p w : Int) : moT M' t' p w = moT M t p w := by
  unfold moT
  refine itr_cg 13 0 0 fun a k _ hk => ?_
  have := h.2 k (by omega)
  rw [ht k (by omega), this.1, this.2.1]
theorem ciM_cg {M M' : Mem} (h : AG M M') (p : Int) : ciM M' p = ciM M p := h.1 _
theorem pwT_cg {M M' : Mem} {t t' : Nat → Int} (h : AG M M') (ht : ∀ q, q ≤ 12 → t' q = t q) (c n : Int) : pwT M' t' c n = pwT M t c n := by
  unfold pwT
  refine sm_cg 13 0 fun q _ hk => ?_
  have := h.2 q (by omega)
  unfold pwH
  rw [ht q (by omega), this.1, this.2.1, this.2.2, ciM_cg h]
theorem gaT_cg {M M' : Mem} {t t' : Nat → Int} (h : AG M M') (ht : ∀ q, q ≤ 12 → t' q = t q) : gaT M' t' = gaT M t := by
  unfold gaT
  rw [h.1 0]
  refine sm_cg _ 0 fun q _ hk => ?_
  rw [moT_cg h ht, h.1 4]
theorem askd_cg {M M' : Mem} (h : AG M M') (f n : Int) : askd M' f n = askd M f n := by
  unfold askd
  rw [h.1 2]
  refine itr_cg _ 0 1 fun a k _ _ => ?_
  unfold askS
  rw [h.1, h.1, h.1]
theorem alT_cg {M M' : Mem} {t t' : Nat → Int} (h : AG M M') (ht : ∀ q, q ≤ 12 → t' q = t q) {q : Nat} (hq : q ≤ 12) : alT M' t' q ↔ alT M t q := by
  have := h.2 q hq
  unfold alT
  rw [moT_cg h ht, ht q hq, this.1, this.2.1]
theorem hpT_cg {M M' : Mem} {t t' : Nat → Int} (h : AG M M') (ht : ∀ q, q ≤ 12 → t' q = t q) {q : Nat} (hq : q ≤ 12) : hpT M' t' q ↔ hpT M t q := by
  have := h.2 q hq
  unfold hpT
  rw [ht q hq, this.1, this.2.1, ciM_cg h, h.1]
  simp only [pwT_cg h ht]
theorem slT_cg {M M' : Mem} {t t' : Nat → Int} (h : AG M M') (ht : ∀ q, q ≤ 12 → t' q = t q) : slT M' t' ↔ slT M t := by
  have := h.2 12 (by omega)
  unfold slT
  rw [ht 12 (by omega), this.1, this.2.1, moT_cg h ht, askd_cg h]
theorem RT_cg {M M' : Mem} {t t' : Nat → Int} (h : AG M M') (ht : ∀ q, q ≤ 12 → t' q = t q) {mv : List Nat} (hm : ∀ q, q ∈ mv → q ≤ 12) (gb : Int) : RT M' t' mv gb ↔ RT M t mv gb := by
  unfold RT
  rw [alT_cg h ht (by omega), hpT_cg h ht (by omega), slT_cg h ht, gaT_cg h ht]
  constructor
  · rintro ⟨a, b, c, d, e, f⟩
    exact ⟨a, fun q hq => (alT_cg h ht (hm q hq)).mp (b q hq), c, d, fun q hq => (hpT_cg h ht (hm q hq)).mp (e q hq), f⟩
  · rintro ⟨a, b, c, d, e, f⟩
    exact ⟨a, fun q hq => (alT_cg h ht (hm q hq)).mpr (b q hq), c, d, fun q hq => (hpT_cg h ht (hm q hq)).mpr (e q hq), f⟩
-- the stays are in their bounds
def vF (M : Mem) : Prop := ∀ q, q ≤ 12 → 0 ≤ iI M 343 q ∧ 0 ≤ iI M 344 q ∧ iI M 344 q ≤ 14 ∧ iI M 343 q + iI M 344 q ≤ 60 ∧ 0 ≤ iI M 345 q ∧ iI M 345 q ≤ 16
theorem vF_cg {M M' : Mem} (h : AG M M') (hv : vF M) : vF M' := by
  intro q hq
  have := h.2 q hq
  rw [this.1, this.2.1, this.2.2]
  exact hv q hq
abbrev inN (M : Mem) (q : Nat) (j : Int) : Prop := iI M 343 q ≤ j ∧ j < iI M 343 q + iI M 344 q
theorem bt_moT {M : Mem} (hv : vF M) (t : Nat → Int) (p w : Int) (j : Nat) : bt (moT M t p w) j = true ↔ ∃ q, q ≤ 12 ∧ t q = p ∧ (q : Int) ≠ w ∧ inN M q j := by
  unfold moT
  rw [itr_or (fun q => if t q = p ∧ (q : Int) ≠ w then mI (iI M 343 q) (iI M 344 q) else 0), bt_zero]
  constructor
  · rintro (h | ⟨q, h1, h2, h3⟩)
    · cases h
    · by_cases hc : t q = p ∧ (q : Int) ≠ w
      · rw [if_pos hc] at h3
        have b := hv q (by omega)
        exact ⟨q, by omega, hc.1, hc.2, (bt_mI b.1 b.2.1 b.2.2.1 b.2.2.2.1).mp h3⟩
      · rw [if_neg hc, bt_zero] at h3
        cases h3
  · rintro ⟨q, h1, h2, h3, h4⟩
    have b := hv q h1
    refine Or.inr ⟨q, by omega, by omega, ?_⟩
    rw [if_pos ⟨h2, h3⟩]
    exact (bt_mI b.1 b.2.1 b.2.2.1 b.2.2.2.1).mpr h4
theorem nz_moT {M : Mem} (hv : vF M) (t : Nat → Int) (p w : Int) : nz (moT M t p w) := by
  intro j hj
  rw [Bf, bt_moT hv]
  rintro ⟨q, h1, h2, h3, h4⟩
  have b := hv q h1
  omega
theorem alT_iff {M : Mem} (hv : vF M) (t : Nat → Int) {q : Nat} (hq : q ≤ 12) : alT M t q ↔ ∀ x, x ≤ 12 → x ≠ q → t x = t q → ∀ j : Nat, ¬ (inN M x j ∧ inN M q j) := by
  have b := hv q hq
  unfold alT
  rw [and_z]
  constructor
  · intro h x hx hn ht j hj
    refine h j (by have := hv x hx; omega) ⟨(bt_moT hv t _ _ j).mpr ⟨x, hx, ht, by omega, hj.1⟩, (bt_mI b.1 b.2.1 b.2.2.1 b.2.2.2.1).mpr hj.2⟩
  · intro h j _ hj
    obtain ⟨x, h1, h2, h3, h4⟩ := (bt_moT hv t _ _ j).mp hj.1
    exact h x h1 (by omega) h2 j ⟨h4, (bt_mI b.1 b.2.1 b.2.2.1 b.2.2.2.1).mp hj.2⟩
theorem pwH_up {M : Mem} {t : Nat → Int} {q : Nat} {p c n : Int} (x : Nat) (h : x ≠ q) : pwH M (up t q p) c n x = pwH M t c n x := by
  unfold pwH
  rw [up_n h]
theorem pwT_up {M : Mem} {t : Nat → Int} {q : Nat} (hq : q ≤ 12) (p c n : Int) : pwT M (up t q p) c n = pwT M t c n - pwH M t c n q + pwH M (up t q p) c n q := by
  unfold pwT
  exact sm_up 13 0 (by omega) (by omega) (fun x _ _ h => pwH_up x h)
theorem pwH_bd {M : Mem} (hv : vF M) (t : Nat → Int) (c n : Int) {q : Nat} (hq : q ≤ 12) : 0 ≤ pwH M t c n q ∧ pwH M t c n q ≤ 16 := by
  have b := hv q hq
  unfold pwH
  split <;> omega
theorem pwT_bd {M : Mem} (hv : vF M) (t : Nat → Int) (c n : Int) : 0 ≤ pwT M t c n ∧ pwT M t c n ≤ 208 := by
  have := sm_bd (h := pwH M t c n) (b := 16) 13 0 (fun q _ h => pwH_bd hv t c n (by omega))
  unfold pwT
  omega
