def bd {α β : Type} (o : Option α) (f : α → Option β) : Option β := match o with
  | none => none
  | some a => f a
def nx {α β : Type} (a : α) (f : α → Option β) : Option β := f a
theorem nx_inv {α β : Type} {a : α} {f : α → Option β} {r : β} (h : nx a f = some r) : ∃ b, a = b ∧ f b = some r := ⟨a, rfl, h⟩
theorem E_mem {l : Launch} {X : MX} {r : Rs} {fa : Bool} {n : Nat} {σ σ' : Mem} {kc ks pc : Nat} {L : List (Nat × Value)} {S : List Value} (e : σ = σ') (k : E l X r fa n σ' kc ks pc L S) : E l X r fa n σ kc ks pc L S := by
  rw [e]
  exact k
theorem bd_inv {α β : Type} {o : Option α} {f : α → Option β} {r : β} (h : bd o f = some r) : ∃ a, o = some a ∧ f a = some r := by
  cases o with
  | none => cases h
  | some a => exact ⟨a, rfl, h⟩
def gd {α : Type} (p : Prop) [Decidable p] (o : Option α) : Option α := if p then o else none
theorem gd_inv {α : Type} {p : Prop} [Decidable p] {o : Option α} {r : α} (h : gd p o = some r) : p ∧ o = some r := by
  unfold gd at h
  by_cases hp : p
  · rw [if_pos hp] at h
    exact ⟨hp, h⟩
  · rw [if_neg hp] at h
    cases h
theorem ite_t {α : Type} {p : Prop} [Decidable p] {a b : Option α} {r : α} (h : (if p then a else b) = some r) (hp : p) : a = some r := by rwa [if_pos hp] at h
theorem ite_f {α : Type} {p : Prop} [Decidable p] {a b : Option α} {r : α} (h : (if p then a else b) = some r) (hp : ¬ p) : b = some r := by rwa [if_neg hp] at h
def xb {α β : Type} (q : (Nat ⊕ α) × Mem) (f : α → Mem → Option ((Nat ⊕ β) × Mem)) : Option ((Nat ⊕ β) × Mem) := match q.1 with
  | .inl e => some (.inl e, q.2)
  | .inr v => f v q.2
theorem xb_inv {α β : Type} {q : (Nat ⊕ α) × Mem} {f : α → Mem → Option ((Nat ⊕ β) × Mem)} {r : (Nat ⊕ β) × Mem} (h : xb q f = some r) : (∃ e, q.1 = .inl e ∧ some ((.inl e : Nat ⊕ β), q.2) = some r) ∨ ∃ v, q.1 = .inr v ∧ f v q.2 = some r := by
  unfold xb at h
  cases hq : q.1 with
  | inl e => rw [hq] at h; exact Or.inl ⟨e, rfl, h⟩
  | inr v => rw [hq] at h; exact Or.inr ⟨v, rfl, h⟩
def xc {α β : Type} (q : (Nat ⊕ α) × Mem) (g : Nat → Mem → Option β) (f : α → Mem → Option β) : Option β := match q.1 with
  | .inl e => g e q.2
  | .inr v => f v q.2
theorem xc_inv {α β : Type} {q : (Nat ⊕ α) × Mem} {g : Nat → Mem → Option β} {f : α → Mem → Option β} {r : β} (h : xc q g f = some r) : (∃ e, q.1 = .inl e ∧ g e q.2 = some r) ∨ ∃ v, q.1 = .inr v ∧ f v q.2 = some r := by
  unfold xc at h
  cases hq : q.1 with
  | inl e => rw [hq] at h; exact Or.inl ⟨e, rfl, h⟩
  | inr v => rw [hq] at h; exact Or.inr ⟨v, rfl, h⟩
def rX (q : Nat ⊕ Int32) : Nat ⊕ Option Value := match q with
  | .inl e => .inl e
  | .inr v => .inr (some (.int v))
def rXd (q : Nat ⊕ UInt64) : Nat ⊕ Option Value := match q with
  | .inl e => .inl e
  | .inr v => .inr (some (.double v))
def rXv (q : Nat ⊕ Unit) : Nat ⊕ Option Value := match q with
  | .inl e => .inl e
  | .inr _ => .inr none
abbrev nNaN (r : UInt64) : Prop := r &&& 0x7fffffffffffffff ≤ 0x7ff0000000000000
abbrev inR (i : Int32) (n : Nat) : Prop := ¬ (i < 0 ∨ n ≤ i.toNatClampNeg)
def ldO (s : Mem) (k j ci : Nat) : Option Nat := match gR s k j with
  | none => none
  | some r => if shape r = some (.inl ci) then some r else none
theorem ldO_inv {s : Mem} {k j ci r : Nat} (h : ldO s k j ci = some r) : gR s k j = some r ∧ shape r = some (.inl ci) := by
  unfold ldO at h
  cases hg : gR s k j with
  | none => rw [hg] at h; cases h
  | some x =>
    rw [hg] at h
    dsimp only at h
    by_cases hs : shape x = some (.inl ci)
    · rw [if_pos hs] at h
      cases h
      exact ⟨rfl, hs⟩
    · rw [if_neg hs] at h
      cases h
def aLen (k t : Nat) : Option Nat := match shape k with
  | some (.inr q) => if q.1 = t then some q.2 else none
  | _ => none
theorem aLen_inv {k t n : Nat} (h : aLen k t = some n) : shape k = some (.inr (t, n)) := by
  unfold aLen at h
  cases hs : shape k with
  | none => rw [hs] at h; cases h
  | some x =>
    cases x with
    | inl c => rw [hs] at h; cases h
    | inr q =>
      rw [hs] at h
      dsimp only at h
      by_cases hq : q.1 = t
      · rw [if_pos hq] at h
        cases h
        rw [← hq]
      · rw [if_neg hq] at h
        cases h
def ldA (s : Mem) (k j t : Nat) : Option (Nat × Nat) := match gR s k j with
  | none => none
  | some r => match aLen r t with
    | none => none
    | some n => some (r, n)
theorem ldA_inv {s : Mem} {k j t : Nat} {q : Nat × Nat} (h : ldA s k j t = some q) : gR s k j = some q.1 ∧ shape q.1 = some (.inr (t, q.2)) := by
  unfold ldA at h
  cases hg : gR s k j with
  | none => rw [hg] at h; cases h
  | some x =>
    rw [hg] at h
    dsimp only at h
    cases hs : aLen x t with
    | none => rw [hs] at h; cases h
    | some n =>
      rw [hs] at h
      cases h
      exact ⟨rfl, aLen_inv hs⟩
theorem nar_b {v : Int32} (h : v = 0 ∨ v = 1) : narrow .boolean (.int v) = .int v := by rcases h with rfl | rfl <;> rfl
theorem nar_c {v : Int32} (h : vp_nar .char v = v) : narrow .char (.int v) = .int v := by
  have h2 : narrow .char (.int v) = .int (vp_nar .char v) := rfl
  rw [h2, h]
theorem tab_out {x : Int32} {lo hi : Int} (h : ∀ z : Int, lo ≤ z → z ≤ hi → ¬ x = Int32.ofInt z) : x.toInt < lo ∨ hi < x.toInt := by
  by_cases h1 : x.toInt < lo
  · exact Or.inl h1
  · by_cases h2 : hi < x.toInt
    · exact Or.inr h2
    · exact absurd (Int32.ofInt_toInt x).symm (h x.toInt (by omega) (by omega))
theorem lv_pick_cv {base b : Nat} (L : List (Nat × Value)) (ks : List Nat) : lv_pick (cvL base b L) ks = cvL base b (lv_pick L ks) := by
  unfold lv_pick cvL
  rw [List.map_filterMap]
  congr 1
  funext k
  rw [List.getElem?_map]
theorem E_sub {l : Launch} {X : MX} {r : Rs} {fa : Bool} {n : Nat} {σ : Mem} {kc ks pc : Nat} {L L' : List (Nat × Value)} {S : List Value} (is : List Nat) (h : lv_pick L is = L') (k : E l X r fa n σ kc ks pc L' S) : E l X r fa n σ kc ks pc L S :=
  fun p e s m args below meth c base b D aC H locs cells slots ls hF hP hS hz hl hc hs => k p e s m args below meth c base b D aC H locs cells slots ls hF hP hS hz (lv_sub hl is (by rw [lv_pick_cv, h])) hc hs
