-- parties on one pitch don't meet
def DJ (M : Mem) (t : Nat → Int) : Prop := ∀ x y, x ≤ 12 → y ≤ 12 → x ≠ y → 0 ≤ t x → t x = t y → ∀ j : Nat, ¬ (inN M x j ∧ inN M y j)
theorem DJ_LT {s M : Mem} {t : Nat → Int} {w : Int} (hv : VR (iI s 341)) (hL : LT s M t w) : DJ M t := by
  have bn := VRn hv
  unfold VN at bn
  intro x y hx hy hxy h0 he j hj
  have h12 := hL.2.1
  have bx : x ≠ 12 := fun h => by subst h; omega
  have by' : y ≠ 12 := fun h => by subst h; omega
  by_cases hBx : ldB s w x
  · by_cases hBy : ldB s w y
    · have ex := (hL.2.2 x (by omega)).1 hBx
      have ey := (hL.2.2 y (by omega)).1 hBy
      have := VRd hv x y hBx.1 hBy.1 hxy hBx.2.1 hBy.2.1 (by rw [← ex.1, ← ey.1]; exact he)
      unfold inN at hj
      rw [ex.2.1, ex.2.2.1, ey.2.1, ey.2.2.1] at hj
      omega
    · have := (hL.2.2 y (by omega)).2 hBy
      omega
  · have := (hL.2.2 x (by omega)).2 hBx
    omega
theorem DJ_rm {M : Mem} {t : Nat → Int} {x : Nat} (h : DJ M t) : DJ M (up t x (-1)) := by
  intro a b ha hb hab h0 he j
  by_cases hax : a = x
  · subst hax; rw [up_e] at h0; omega
  · rw [up_n hax] at h0 he
    by_cases hbx : b = x
    · subst hbx; rw [up_e] at he; omega
    · rw [up_n hbx] at he
      exact h a b ha hb hab h0 he j
theorem mo_rm {M : Mem} (hF : vF M) {t : Nat → Int} (hD : DJ M t) {x : Nat} (hx : x ≤ 12) (h0 : 0 ≤ t x) (i : Int) (hi : 0 ≤ i) : moT M (up t x (-1)) i (-1) = if i = t x then moT M t i (-1) &&& (mI (iI M 343 x) (iI M 344 x) ^^^ (-1)) else moT M t i (-1) := by
  have b := hF x hx
  refine nz_ext (nz_moT hF _ _ _) ?_ fun j hj => Bx ?_
  · split
    · exact nz_and (nz_moT hF _ _ _)
    · exact nz_moT hF _ _ _
  · rw [bt_moT hF]
    split
    · rename_i h
      subst h
      rw [bt_and, bt_not _ (by omega), Bool.and_eq_true, Bool.not_eq_true', bt_moT hF, Bf, bt_mI b.1 b.2.1 b.2.2.1 b.2.2.2.1]
      constructor
      · rintro ⟨q, h1, h2, h3, h4⟩
        have hq : q ≠ x := fun z => by subst z; rw [up_e] at h2; omega
        rw [up_n hq] at h2
        exact ⟨⟨q, h1, h2, h3, h4⟩, fun h5 => hD x q hx h1 (Ne.symm hq) h0 h2.symm j ⟨h5, h4⟩⟩
      · rintro ⟨⟨q, h1, h2, h3, h4⟩, h5⟩
        have hq : q ≠ x := fun z => by subst z; exact h5 h4
        exact ⟨q, h1, by rw [up_n hq]; exact h2, h3, h4⟩
    · rename_i h
      rw [bt_moT hF]
      constructor
      · rintro ⟨q, h1, h2, h3, h4⟩
        have hq : q ≠ x := fun z => by subst z; rw [up_e] at h2; omega
        rw [up_n hq] at h2
        exact ⟨q, h1, h2, h3, h4⟩
      · rintro ⟨q, h1, h2, h3, h4⟩
        have hq : q ≠ x := fun z => by subst z; exact h h2.symm
        exact ⟨q, h1, by rw [up_n hq]; exact h2, h3, h4⟩
theorem mo_add {M : Mem} (hF : vF M) {t : Nat → Int} {x : Nat} (hx : x ≤ 12) (hm : t x = -1) (p i : Int) (hi : 0 ≤ i) : moT M (up t x p) i (-1) = if i = p then moT M t i (-1) ||| mI (iI M 343 x) (iI M 344 x) else moT M t i (-1) := by
  have b := hF x hx
  refine bt_ext fun j _ => Bx ?_
  rw [bt_moT hF]
  split
  · rename_i h
    subst h
    rw [bt_or, Bool.or_eq_true, bt_moT hF, bt_mI b.1 b.2.1 b.2.2.1 b.2.2.2.1]
    constructor
    · rintro ⟨q, h1, h2, h3, h4⟩
      by_cases hq : q = x
      · subst hq; exact Or.inr h4
      · rw [up_n hq] at h2
        exact Or.inl ⟨q, h1, h2, h3, h4⟩
    · rintro (⟨q, h1, h2, h3, h4⟩ | h)
      · have : q ≠ x := fun z => by subst z; omega
        exact ⟨q, h1, by rw [up_n this]; exact h2, h3, h4⟩
      · exact ⟨x, hx, up_e _ _ _, by omega, h⟩
  · rename_i h
    rw [bt_moT hF]
    constructor
    · rintro ⟨q, h1, h2, h3, h4⟩
      by_cases hq : q = x
      · subst hq
        rw [up_e] at h2
        exact absurd h2.symm h
      · rw [up_n hq] at h2
        exact ⟨q, h1, h2, h3, h4⟩
    · rintro ⟨q, h1, h2, h3, h4⟩
      have : q ≠ x := fun z => by subst z; omega
      exact ⟨q, h1, by rw [up_n this]; exact h2, h3, h4⟩
theorem al_add {M : Mem} (hF : vF M) {t : Nat → Int} {x : Nat} (hx : x ≤ 12) (hm : t x = -1) {p : Int} (hp : 0 ≤ p) : alT M (up t x p) x ↔ moT M t p (-1) &&& mI (iI M 343 x) (iI M 344 x) = 0 := by
  unfold alT
  rw [up_e]
  have : moT M (up t x p) p x = moT M t p (-1) := by
    refine bt_ext fun j _ => Bx ?_
    rw [bt_moT hF, bt_moT hF]
    constructor
    · rintro ⟨q, h1, h2, h3, h4⟩
      rw [up_n (by omega)] at h2
      exact ⟨q, h1, h2, by omega, h4⟩
    · rintro ⟨q, h1, h2, h3, h4⟩
      have : q ≠ x := fun z => by subst z; omega
      exact ⟨q, h1, by rw [up_n this]; exact h2, by omega, h4⟩
  rw [this]
-- a plan: the parties W 0 = 12, W 1 .. W c come to the pitches D
def RMV (t : Nat → Int) (W : Nat → Nat) : Nat → (Nat → Int)
  | 0 => t
  | k + 1 => up (RMV t W k) (W (k + 1)) (-1)
def PLC (t : Nat → Int) (W D : Nat → Nat) : Nat → (Nat → Int)
  | 0 => t
  | k + 1 => up (PLC t W D k) (W k) (D k)
def inj (W : Nat → Nat) (c : Nat) : Prop := ∀ i j, i ≤ c → j ≤ c → W i = W j → i = j
theorem RMV_n {t : Nat → Int} {W : Nat → Nat} {x : Nat} : ∀ (k : Nat), (∀ i, 1 ≤ i → i ≤ k → W i ≠ x) → RMV t W k x = t x
  | 0, _ => rfl
  | k + 1, h => by
    show up (RMV t W k) (W (k + 1)) (-1) x = t x
    rw [up_n (Ne.symm (h (k + 1) (by omega) (by omega))), RMV_n k (fun i h1 h2 => h i h1 (by omega))]
theorem RMV_m {t : Nat → Int} {W : Nat → Nat} : ∀ (k i : Nat), 1 ≤ i → i ≤ k → RMV t W k (W i) = -1
  | 0, i, h1, h2 => by omega
  | k + 1, i, h1, h2 => by
    show up (RMV t W k) (W (k + 1)) (-1) (W i) = -1
    by_cases h : W i = W (k + 1)
    · rw [h, up_e]
    · rw [up_n h]
      have : i ≠ k + 1 := fun z => by subst z; exact h rfl
      exact RMV_m k i h1 (by omega)
theorem DJ_RMV {M : Mem} {t : Nat → Int} {W : Nat → Nat} (h : DJ M t) : ∀ k, DJ M (RMV t W k)
  | 0 => h
  | k + 1 => DJ_rm (DJ_RMV h k)
theorem PLC_n {t : Nat → Int} {W D : Nat → Nat} {x : Nat} : ∀ (k : Nat), (∀ i, i < k → W i ≠ x) → PLC t W D k x = t x
  | 0, _ => rfl
  | k + 1, h => by
    show up (PLC t W D k) (W k) (D k) x = t x
    rw [up_n (Ne.symm (h k (by omega))), PLC_n k (fun i h1 => h i (by omega))]
theorem PLC_m {t : Nat → Int} {W D : Nat → Nat} {c : Nat} (hW : inj W c) : ∀ (k i : Nat), i < k → k ≤ c + 1 → PLC t W D k (W i) = D i
  | 0, i, h1, _ => by omega
  | k + 1, i, h1, h2 => by
    show up (PLC t W D k) (W k) (D k) (W i) = D i
    by_cases h : i = k
    · subst h; rw [up_e]
    · rw [up_n (fun z => h (hW i k (by omega) (by omega) z))]
      exact PLC_m hW k i (by omega) (by omega)
-- all alone, one after the other or at the end
theorem al_seq {M : Mem} (hF : vF M) {t : Nat → Int} {W D : Nat → Nat} {c : Nat} (hW : inj W c) (hW12 : ∀ i, i ≤ c → W i ≤ 12) (hm : ∀ i, i ≤ c → t (W i) = -1) : (∀ k, k ≤ c → alT M (PLC t W D (k + 1)) (W k)) ↔ (∀ k, k ≤ c → alT M (PLC t W D (c + 1)) (W k)) := by
  constructor
  · intro h k hk
    rw [alT_iff hF _ (hW12 k hk)]
    intro x hx hxk he j hj
    rw [PLC_m hW (c + 1) k (by omega) (by omega)] at he
    by_cases hin : ∃ i, i ≤ c ∧ W i = x
    · obtain ⟨i, hi, rfl⟩ := hin
      rw [PLC_m hW (c + 1) i (by omega) (by omega)] at he
      have hik : i ≠ k := fun z => by subst z; exact hxk rfl
      rcases Nat.lt_or_ge i k with hlt | hge
      · have := (alT_iff hF _ (hW12 k hk)).mp (h k hk) (W i) hx hxk (by rw [PLC_m hW (k + 1) i (by omega) (by omega), PLC_m hW (k + 1) k (by omega) (by omega)]; exact he) j
        exact this hj
      · have := (alT_iff hF _ (hW12 i hi)).mp (h i hi) (W k) (hW12 k hk) (Ne.symm hxk) (by rw [PLC_m hW (i + 1) k (by omega) (by omega), PLC_m hW (i + 1) i (by omega) (by omega)]; exact he.symm) j
        exact this ⟨hj.2, hj.1⟩
    · have hn : ∀ i, i ≤ c → W i ≠ x := fun i hi z => hin ⟨i, hi, z⟩
      rw [PLC_n (c + 1) (fun i hi => hn i (by omega))] at he
      exact (alT_iff hF _ (hW12 k hk)).mp (h k hk) x hx hxk (by rw [PLC_n (k + 1) (fun i hi => hn i (by omega)), PLC_m hW (k + 1) k (by omega) (by omega)]; exact he) j hj
  · intro h k hk
    rw [alT_iff hF _ (hW12 k hk)]
    intro x hx hxk he j hj
    rw [PLC_m hW (k + 1) k (by omega) (by omega)] at he
    refine (alT_iff hF _ (hW12 k hk)).mp (h k hk) x hx hxk ?_ j hj
    rw [PLC_m hW (c + 1) k (by omega) (by omega), ← he]
    by_cases hin : ∃ i, i ≤ c ∧ W i = x
    · obtain ⟨i, hi, rfl⟩ := hin
      rw [PLC_m hW (c + 1) i (by omega) (by omega)]
      by_cases hik : i ≤ k
      · rw [PLC_m hW (k + 1) i (by omega) (by omega)]
      · exfalso
        rw [PLC_n (k + 1) (fun a ha z => by have := hW a i (by omega) hi z; omega), hm i hi] at he
        omega
    · have hn : ∀ i, i ≤ c → W i ≠ x := fun i hi z => hin ⟨i, hi, z⟩
      rw [PLC_n (c + 1) (fun i hi => hn i (by omega)), PLC_n (k + 1) (fun i hi => hn i (by omega))]
-- power, one after the other
theorem pw_seq {M : Mem} {t : Nat → Int} {W D : Nat → Nat} {c : Nat} (hW : inj W c) (hW12 : ∀ i, i ≤ c → W i ≤ 12) (ci n : Int) : ∀ k, k ≤ c → pwT M (PLC t W D (k + 1)) ci n = pwT M (PLC t W D k) ci n - pwH M t ci n (W k) + pwH M (fun _ => (D k : Int)) ci n (W k) := by
  intro k hk
  show pwT M (up (PLC t W D k) (W k) (D k)) ci n = _
  rw [pwT_up (hW12 k hk)]
  have e1 : pwH M (PLC t W D k) ci n (W k) = pwH M t ci n (W k) := by
    unfold pwH
    rw [PLC_n k (fun i hi z => by have := hW i k (by omega) hk z; omega)]
  have e2 : pwH M (up (PLC t W D k) (W k) (D k)) ci n (W k) = pwH M (fun _ => (D k : Int)) ci n (W k) := by
    unfold pwH
    rw [up_e]
  rw [e1, e2]
-- the places of a plan don't depend on where its parties were
theorem PLC_base {t t' : Nat → Int} {W D : Nat → Nat} {c : Nat} (hW : inj W c) (h : ∀ x, x ≤ 12 → (∀ i, i ≤ c → W i ≠ x) → t' x = t x) : ∀ x, x ≤ 12 → PLC t' W D (c + 1) x = PLC t W D (c + 1) x := by
  intro x hx
  by_cases hin : ∃ i, i ≤ c ∧ W i = x
  · obtain ⟨i, hi, rfl⟩ := hin
    rw [PLC_m hW (c + 1) i (by omega) (by omega), PLC_m hW (c + 1) i (by omega) (by omega)]
  · have hn : ∀ i, i ≤ c → W i ≠ x := fun i hi z => hin ⟨i, hi, z⟩
    rw [PLC_n (c + 1) (fun i hi => hn i (by omega)), PLC_n (c + 1) (fun i hi => hn i (by omega)), h x hx hn]
