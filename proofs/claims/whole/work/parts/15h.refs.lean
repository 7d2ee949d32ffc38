-- keeping a camp writes no reference
def SR (s s' : Mem) : Prop := ∀ k j, gR s' k j = gR s k j
theorem SR_s {s s' : Mem} (h : some s = some s') : SR s s' := by
  cases h
  exact fun _ _ => rfl
theorem SR_pI {s s' : Mem} {a j : Nat} {v : Int32} {f : Mem → Option Mem} (h : nx (pI s a j v) f = some s') (hf : ∀ m, f m = some s' → SR m s') : SR s s' := fun k i => hf (pI s a j v) h k i
theorem SR_pL {s s' : Mem} {a j : Nat} {v : Int64} {f : Mem → Option Mem} (h : nx (pL s a j v) f = some s') (hf : ∀ m, f m = some s' → SR m s') : SR s s' := fun k i => hf (pL s a j v) h k i
theorem SR_bd {α : Type} {s s' : Mem} {x : Option α} {f : α → Option Mem} (h : bd x f = some s') (hf : ∀ a, f a = some s' → SR s s') : SR s s' := by
  cases x with
  | none => cases h
  | some a => exact hf a h
theorem SR_bq {s s' : Mem} {x : Option Mem} {f : Mem → Option Mem} (h : bd x f = some s') (hx : ∀ m, x = some m → SR s m) (hf : ∀ m, f m = some s' → SR m s') : SR s s' := by
  cases x with
  | none => cases h
  | some a => exact fun k j => (hf a h k j).trans (hx a rfl k j)
theorem SR_gd {s s' : Mem} {p : Prop} [Decidable p] {x : Option Mem} (h : gd p x = some s') (hf : x = some s' → SR s s') : SR s s' := by
  by_cases hp : p
  · rw [gd_t hp] at h; exact hf h
  · have : gd p x = none := if_neg hp
    rw [this] at h
    cases h
theorem SR_if {s s' : Mem} {p : Prop} [Decidable p] {x y : Option Mem} (h : (if p then x else y) = some s') (h1 : x = some s' → SR s s') (h2 : y = some s' → SR s s') : SR s s' := by
  by_cases hp : p
  · rw [if_pos hp] at h; exact h1 h
  · rw [if_neg hp] at h; exact h2 h
theorem SR_X6 {fl a b : Nat} {s s' : Mem} (h : F_X6_copyFrom fl a b s = some s') : SR s s' := SR_pI h fun _ h => SR_pI h fun _ h => SR_pI h fun _ h => SR_s h
theorem SR_X4 {fl a b : Nat} {s s' : Mem} (h : F_X4_copyFrom fl a b s = some s') : SR s s' := SR_pI h fun _ h => SR_pI h fun _ h => SR_pI h fun _ h => SR_pI h fun _ h => SR_pI h fun _ h => SR_s h
theorem SR_X3 {fl a b : Nat} {s s' : Mem} (h : F_X3_copyFrom fl a b s = some s') : SR s s' := SR_pI h fun _ h => SR_pI h fun _ h => SR_pI h fun _ h => SR_pI h fun _ h => SR_pI h fun _ h => SR_pI h fun _ h => SR_pL h fun _ h => SR_pI h fun _ h => SR_pI h fun _ h => SR_pI h fun _ h => SR_gd h fun h => SR_pI h fun _ h => SR_s h
theorem SR_119 {fl : Nat} : ∀ (n a b : Nat) (v : Int32) (s s' : Mem), B_X1_copyFrom_119 fl n a b v s = some s' → SR s s' := by
  intro n
  induction n with
  | zero => intro a b v s s' h; cases h
  | succ n ih =>
    intro a b v s s' h
    unfold B_X1_copyFrom_119 at h
    exact SR_if h (fun h => SR_pI h fun _ h => SR_pI h fun _ h => SR_s h) (fun h => SR_bd h fun _ h => SR_bd h fun _ h => SR_gd h fun h => SR_gd h fun h => SR_pI h fun _ h => ih _ _ _ _ _ h)
theorem SR_88 {fl : Nat} : ∀ (n a b : Nat) (v : Int32) (s s' : Mem), B_X1_copyFrom_88 fl n a b v s = some s' → SR s s' := by
  intro n
  induction n with
  | zero => intro a b v s s' h; cases h
  | succ n ih =>
    intro a b v s s' h
    unfold B_X1_copyFrom_88 at h
    exact SR_if h (fun h => SR_119 _ _ _ _ _ _ h) (fun h => SR_bd h fun _ h => SR_gd h fun h => SR_bd h fun _ h => SR_bd h fun _ h => SR_gd h fun h => SR_bd h fun _ h => SR_bq h (fun _ h => SR_X6 h) fun _ h => ih _ _ _ _ _ h)
theorem SR_49 {fl : Nat} : ∀ (n a b : Nat) (v : Int32) (s s' : Mem), B_X1_copyFrom_49 fl n a b v s = some s' → SR s s' := by
  intro n
  induction n with
  | zero => intro a b v s s' h; cases h
  | succ n ih =>
    intro a b v s s' h
    unfold B_X1_copyFrom_49 at h
    exact SR_if h (fun h => SR_pI h fun _ h => SR_88 _ _ _ _ _ _ h) (fun h => SR_bd h fun _ h => SR_gd h fun h => SR_bd h fun _ h => SR_bd h fun _ h => SR_gd h fun h => SR_bd h fun _ h => SR_bq h (fun _ h => SR_X3 h) fun _ h => ih _ _ _ _ _ h)
theorem SR_10 {fl : Nat} : ∀ (n a b : Nat) (v : Int32) (s s' : Mem), B_X1_copyFrom_10 fl n a b v s = some s' → SR s s' := by
  intro n
  induction n with
  | zero => intro a b v s s' h; cases h
  | succ n ih =>
    intro a b v s s' h
    unfold B_X1_copyFrom_10 at h
    exact SR_if h (fun h => SR_pI h fun _ h => SR_49 _ _ _ _ _ _ h) (fun h => SR_bd h fun _ h => SR_gd h fun h => SR_bd h fun _ h => SR_bd h fun _ h => SR_gd h fun h => SR_bd h fun _ h => SR_bq h (fun _ h => SR_X4 h) fun _ h => ih _ _ _ _ _ h)
theorem SR_X1 {fl a b : Nat} {s s' : Mem} (h : F_X1_copyFrom fl a b s = some s') : SR s s' := SR_pI h fun _ h => SR_10 _ _ _ _ _ _ h
theorem SR_35 {fl a b : Nat} {v : Int32} {s s' : Mem} (h : B_X2_keep_35 fl a b v s = some s') : SR s s' := SR_pI h fun _ h => SR_bd h fun _ h => SR_pI h fun _ h => SR_s h
theorem SR_keep {fl a b : Nat} {s s' : Mem} (h : F_X2_keep fl a b s = some s') : SR s s' := by
  unfold F_X2_keep at h
  exact SR_bd h fun _ h => SR_gd h fun h => SR_bd h fun _ h => SR_bq h (fun _ h => SR_X1 h) fun _ h => SR_if h (fun h => SR_35 h) (fun h => SR_35 h)
