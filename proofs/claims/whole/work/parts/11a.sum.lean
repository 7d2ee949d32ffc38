-- sums over a range, counts of bits
def sm (h : Nat → Int) (m i : Nat) : Int := itr (fun a q => a + h q) m i 0
theorem sm_acc (h : Nat → Int) : ∀ (m i : Nat) (a : Int), itr (fun a q => a + h q) m i a = a + sm h m i
  | 0, i, a => by show a = a + 0; omega
  | m + 1, i, a => by
    show itr (fun a q => a + h q) m (i + 1) (a + h i) = a + itr (fun a q => a + h q) m (i + 1) (0 + h i)
    rw [sm_acc h m (i + 1) (a + h i), sm_acc h m (i + 1) (0 + h i)]
    omega
theorem sm_0 (h : Nat → Int) (i : Nat) : sm h 0 i = 0 := rfl
theorem sm_s (h : Nat → Int) (m i : Nat) : sm h (m + 1) i = h i + sm h m (i + 1) := by
  show itr (fun a q => a + h q) m (i + 1) (0 + h i) = _
  rw [sm_acc]
  omega
theorem sm_cg {h g : Nat → Int} : ∀ (m i : Nat), (∀ q, i ≤ q → q < i + m → h q = g q) → sm h m i = sm g m i
  | 0, _, _ => rfl
  | m + 1, i, e => by rw [sm_s, sm_s, e i (Nat.le_refl _) (by omega), sm_cg m (i + 1) (fun q h1 h2 => e q (by omega) (by omega))]
theorem sm_z {h : Nat → Int} : ∀ (m i : Nat), (∀ q, i ≤ q → q < i + m → h q = 0) → sm h m i = 0
  | 0, _, _ => rfl
  | m + 1, i, e => by rw [sm_s, e i (Nat.le_refl _) (by omega), sm_z m (i + 1) (fun q h1 h2 => e q (by omega) (by omega))]; rfl
theorem sm_sp (h : Nat → Int) : ∀ (m n i : Nat), sm h (m + n) i = sm h m i + sm h n (i + m)
  | 0, n, i => by rw [Nat.zero_add, sm_0]; show _ = 0 + sm h n i; omega
  | m + 1, n, i => by
    rw [show m + 1 + n = (m + n) + 1 by omega, sm_s, sm_s, sm_sp h m n (i + 1), show i + 1 + m = i + (m + 1) by omega]
    omega
theorem sm_up {h g : Nat → Int} {q : Nat} : ∀ (m i : Nat), i ≤ q → q < i + m → (∀ x, i ≤ x → x < i + m → x ≠ q → h x = g x) → sm h m i = sm g m i - g q + h q
  | 0, i, h1, h2, _ => by omega
  | m + 1, i, h1, h2, e => by
    rw [sm_s, sm_s]
    by_cases hq : i = q
    · subst hq
      rw [sm_cg m (i + 1) (fun x a b => e x (by omega) (by omega) (by omega))]
      omega
    · rw [e i (Nat.le_refl _) (by omega) hq, sm_up m (i + 1) (by omega) (by omega) (fun x a b => e x (by omega) (by omega))]
      omega
theorem sm_le {h g : Nat → Int} : ∀ (m i : Nat), (∀ q, i ≤ q → q < i + m → h q ≤ g q) → sm h m i ≤ sm g m i
  | 0, _, _ => Int.le_refl _
  | m + 1, i, e => by
    rw [sm_s, sm_s]
    have h1 := e i (Nat.le_refl _) (by omega)
    have h2 := sm_le m (i + 1) (fun q h1 h2 => e q (by omega) (by omega))
    omega
theorem sm_bd {h : Nat → Int} {b : Int} : ∀ (m i : Nat), (∀ q, i ≤ q → q < i + m → 0 ≤ h q ∧ h q ≤ b) → 0 ≤ sm h m i ∧ sm h m i ≤ b * m
  | 0, _, _ => by rw [sm_0]; show 0 ≤ (0 : Int) ∧ 0 ≤ b * ((0 : Nat) : Int); rw [Int.natCast_zero, Int.mul_zero]; omega
  | m + 1, i, e => by
    rw [sm_s]
    have h1 := e i (Nat.le_refl _) (by omega)
    have h2 := sm_bd m (i + 1) (fun q h1 h2 => e q (by omega) (by omega))
    rw [Int.natCast_add, Int.mul_add]
    omega
-- sums over two places at most
theorem sm_one {h : Nat → Int} {q : Nat} (m i : Nat) (h1 : i ≤ q) (h2 : q < i + m) (e : ∀ x, i ≤ x → x < i + m → x ≠ q → h x = 0) : sm h m i = h q := by
  have := sm_up (h := h) (g := fun _ => 0) m i h1 h2 e
  rw [this, sm_z m i (fun _ _ _ => rfl)]
  omega
-- bits
def idx (v : Int64) (n : Nat) : Nat := cn v n
theorem cn_s (v : Int64) (n : Nat) : cn v (n + 1) = cn v n + (if bt v n then 1 else 0) := rfl
theorem cn_skip (v : Int64) : ∀ (m n : Nat), (∀ j, n ≤ j → j < n + m → bt v j = false) → cn v (n + m) = cn v n
  | 0, _, _ => rfl
  | m + 1, n, h => by
    rw [show n + (m + 1) = (n + m) + 1 by omega, cn_s, h (n + m) (by omega) (by omega), cn_skip v m n (fun j h1 h2 => h j h1 (by omega))]
    rfl
theorem cn_mono (v : Int64) (n : Nat) : ∀ m, cn v n ≤ cn v (n + m)
  | 0 => Nat.le_refl _
  | m + 1 => by
    rw [show n + (m + 1) = (n + m) + 1 by omega, cn_s]
    have := cn_mono v n m
    omega
theorem cn_le (v : Int64) : ∀ n, cn v n ≤ n
  | 0 => Nat.le_refl _
  | n + 1 => by
    rw [cn_s]
    have := cn_le v n
    split <;> omega
-- sets of nights
def nz (v : Int64) : Prop := ∀ j, 60 ≤ j → bt v j = false
theorem nz_0 : nz 0 := fun j _ => bt_zero j
theorem nz_or {a b : Int64} (ha : nz a) (hb : nz b) : nz (a ||| b) := fun j h => by rw [bt_or, ha j h, hb j h]; rfl
theorem nz_and {a b : Int64} (ha : nz a) : nz (a &&& b) := fun j h => by rw [bt_and, ha j h]; rfl
theorem nz_cn {v : Int64} (h : nz v) : cn v 64 = cn v 60 := cn_skip v 4 60 (fun j h1 h2 => h j h1)
theorem nz_ext {a b : Int64} (ha : nz a) (hb : nz b) (h : ∀ j, j < 60 → bt a j = bt b j) : a = b := by
  refine bt_ext fun j _ => ?_
  by_cases hj : j < 60
  · exact h j hj
  · rw [ha j (by omega), hb j (by omega)]
theorem bt_mI {f n : Int} {j : Nat} (hf : 0 ≤ f) (hn : 0 ≤ n) (hn2 : n ≤ 14) (hfn : f + n ≤ 60) : bt (mI f n) j = true ↔ f ≤ j ∧ (j : Int) < f + n := by
  obtain ⟨f', rfl⟩ : ∃ f' : Nat, f = f' := ⟨f.toNat, by omega⟩
  obtain ⟨n', rfl⟩ : ∃ n' : Nat, n = n' := ⟨n.toNat, by omega⟩
  rw [mI_mk, bt_mk (by omega) (by omega) (by omega), decide_eq_true_iff]
  omega
theorem nz_mI {f n : Int} (hf : 0 ≤ f) (hn : 0 ≤ n) (hn2 : n ≤ 14) (hfn : f + n ≤ 60) : nz (mI f n) := fun j hj => by
  cases h : bt (mI f n) j with
  | false => rfl
  | true =>
    rw [bt_mI hf hn hn2 hfn] at h
    omega
theorem bt_ite {c : Prop} [Decidable c] (a b : Int64) (j : Nat) : bt (if c then a else b) j = if c then bt a j else bt b j := by split <;> rfl
theorem Bx {a b : Bool} (h : a = true ↔ b = true) : a = b := by
  cases a <;> cases b <;> simp_all
theorem Bf {a : Bool} : a = false ↔ ¬ a = true := by cases a <;> simp
-- an or over a range
theorem itr_or (f : Nat → Int64) (j : Nat) : ∀ (m i : Nat) (a : Int64), bt (itr (fun a q => a ||| f q) m i a) j = true ↔ bt a j = true ∨ ∃ q, i ≤ q ∧ q < i + m ∧ bt (f q) j = true
  | 0, i, a => ⟨Or.inl, fun h => h.elim id (fun ⟨q, h1, h2, _⟩ => by omega)⟩
  | m + 1, i, a => by
    show bt (itr (fun a q => a ||| f q) m (i + 1) (a ||| f i)) j = true ↔ _
    rw [itr_or f j m (i + 1), bt_or, Bool.or_eq_true]
    constructor
    · rintro ((h | h) | ⟨q, h1, h2, h3⟩)
      · exact Or.inl h
      · exact Or.inr ⟨i, Nat.le_refl _, by omega, h⟩
      · exact Or.inr ⟨q, by omega, by omega, h3⟩
    · rintro (h | ⟨q, h1, h2, h3⟩)
      · exact Or.inl (Or.inl h)
      · by_cases hq : q = i
        · subst hq
          exact Or.inl (Or.inr h3)
        · exact Or.inr ⟨q, by omega, by omega, h3⟩
theorem nz_itr {f : Nat → Int64} : ∀ (m i : Nat) (a : Int64), nz a → (∀ q, i ≤ q → q < i + m → nz (f q)) → nz (itr (fun a q => a ||| f q) m i a)
  | 0, _, _, h, _ => h
  | m + 1, i, a, h, e => nz_itr m (i + 1) _ (nz_or h (e i (Nat.le_refl _) (by omega))) (fun q h1 h2 => e q (by omega) (by omega))
