-- s but for what int and long cells of C hold, and what stands in the second and third place of the plan's parties
def FG (s s' : Mem) (C : Nat → Nat → Prop) : Prop := (∀ k j, ¬ C k j → iI s' k j = iI s k j ∧ gL s' k j = gL s k j) ∧ ∀ k j, (k ≠ 323 ∨ j = 0) → gR s' k j = gR s k j
theorem FG_refl (s : Mem) (C : Nat → Nat → Prop) : FG s s C := ⟨fun _ _ _ => ⟨rfl, rfl⟩, fun _ _ _ => rfl⟩
theorem FG_trans {s s' s'' : Mem} {C : Nat → Nat → Prop} (h : FG s s' C) (h2 : FG s' s'' C) : FG s s'' C := ⟨fun k j hc => ⟨(h2.1 k j hc).1.trans (h.1 k j hc).1, (h2.1 k j hc).2.trans (h.1 k j hc).2⟩, fun k j hr => (h2.2 k j hr).trans (h.2 k j hr)⟩
theorem FG_mono {s s' : Mem} {C D : Nat → Nat → Prop} (h : FG s s' C) (hc : ∀ k j, C k j → D k j) : FG s s' D := ⟨fun k j hd => h.1 k j (fun q => hd (hc k j q)), h.2⟩
theorem FG_FI {s s' : Mem} {C : Nat → Nat → Prop} (h : FI s s' C) : FG s s' C := ⟨fun k j hc => ⟨h.2 k j hc, FI_L h k j⟩, fun k j _ => FI_R h k j⟩
theorem FG_I {s s' : Mem} {C : Nat → Nat → Prop} (h : FG s s' C) {k j : Nat} (hc : ¬ C k j) : iI s' k j = iI s k j := (h.1 k j hc).1
theorem FG_L {s s' : Mem} {C : Nat → Nat → Prop} (h : FG s s' C) {k j : Nat} (hc : ¬ C k j) : gL s' k j = gL s k j := (h.1 k j hc).2
theorem FG_p (s : Mem) (k j : Nat) (v : Int32) {C : Nat → Nat → Prop} (hc : C k j) : FG s (pI s k j v) C := FG_FI (FI_p s k j v hc)
theorem FG_pL (s : Mem) (k j : Nat) (v : Int64) {C : Nat → Nat → Prop} (hc : C k j) : FG s (pL s k j v) C := by
  refine ⟨fun a b h => ⟨rfl, ?_⟩, fun _ _ _ => rfl⟩
  rw [gL_p, if_neg]
  intro q
  rw [q.1, q.2] at h
  exact h hc
theorem FG_RO {s s' : Mem} {C : Nat → Nat → Prop} (h : FG s s' C) (hs : RO s) : RO s' := by
  intro k j r hr
  rw [h.2 k j ?_]
  · exact hs k j r hr
  · by_cases hk : k = 323
    · subst hk
      cases hr
    · exact Or.inl hk
-- what copying into the camp at A writes
def cpC (A k j : Nat) : Prop := k = A ∧ (j = 1 ∨ j = 3 ∨ j = 5 ∨ j = 7 ∨ j = 8) ∨ A + 2 ≤ k ∧ k ≤ A + 7 ∨ A + 9 ≤ k ∧ k ≤ A + 20 ∨ A + 22 ≤ k ∧ k ≤ A + 26
theorem PR_FG {s s' : Mem} {C : Nat → Nat → Prop} (h : FG s s' C) {k q : Nat} {g : Nat → Int} (hC : ∀ j, ¬ C k j) (hp : PR s k g q) : PR s' k g q := by
  obtain ⟨h1, h2, h3, h4, h5, h6⟩ := hp
  refine ⟨fun f hf => ?_, ?_, ?_, ?_, ?_, ?_⟩
  · rw [FG_I h (hC f)]; exact h1 f hf
  · rw [FG_L h (hC 6)]; exact h2
  · rw [FG_I h (hC 7)]; exact h3
  · rw [FG_I h (hC 8)]; exact h4
  · rw [FG_I h (hC 9)]; exact h5
  · rw [FG_I h (hC 10)]; exact h6
-- a camp is untouched
def out (C : Nat → Nat → Prop) (A : Nat) : Prop := ∀ k j, A ≤ k → k ≤ A + 26 → ¬ C k j
theorem CR_FG {s s' : Mem} {C : Nat → Nat → Prop} (h : FG s s' C) {A : Nat} {g : Nat → Int} (hC : out C A) (hv : VN g) (hr : CR s A g) : CR s' A g := by
  unfold VN at hv
  obtain ⟨⟨a1, a2, a3, a4, a5⟩, b, c, d, e⟩ := hr
  refine ⟨⟨?_, ?_, ?_, ?_, ?_⟩, fun x hx => ?_, fun p f hp hf => ?_, fun p f hp hf => ?_, fun q hq => ?_⟩
  · rw [FG_I h (hC _ _ (by omega) (by omega))]; exact a1
  · rw [FG_I h (hC _ _ (by omega) (by omega))]; exact a2
  · rw [FG_I h (hC _ _ (by omega) (by omega))]; exact a3
  · rw [FG_I h (hC _ _ (by omega) (by omega))]; exact a4
  · rw [FG_I h (hC _ _ (by omega) (by omega))]; exact a5
  · rw [FG_I h (hC _ _ (by omega) (by omega))]; exact b x hx
  · rw [FG_I h (hC _ _ (by omega) (by omega))]; exact c p f hp hf
  · rw [FG_I h (hC _ _ (by omega) (by omega))]; exact d p f hp hf
  · exact PR_FG h (fun j => hC _ _ (by omega) (by omega)) (e q hq)
theorem CR_cg {s : Mem} {A : Nat} {g g' : Nat → Int} (hg : ∀ k, k < 170 → g' k = g k) (hv : VN g) (hr : CR s A g) : CR s A g' := by
  unfold VN at hv
  obtain ⟨⟨a1, a2, a3, a4, a5⟩, b, c, d, e⟩ := hr
  refine ⟨⟨?_, ?_, ?_, ?_, ?_⟩, fun x hx => ?_, fun p f hp hf => ?_, fun p f hp hf => ?_, fun q hq => ?_⟩
  · rw [hg _ (by omega)]; exact a1
  · rw [hg _ (by omega)]; exact a2
  · rw [hg _ (by omega)]; exact a3
  · rw [hg _ (by omega)]; exact a4
  · rw [hg _ (by omega)]; exact a5
  · rw [hg _ (by omega)]; exact b x hx
  · rw [hg 0 (by omega)] at hp; rw [hg _ (by omega)]; exact c p f hp hf
  · rw [hg 2 (by omega)] at hp; rw [hg _ (by omega)]; exact d p f hp hf
  · rw [hg 1 (by omega)] at hq
    obtain ⟨h1, h2, h3, h4, h5, h6⟩ := e q hq
    refine ⟨fun f hf => ?_, ?_, ?_, ?_, ?_, ?_⟩
    · rw [hg _ (by omega)]; exact h1 f hf
    · rw [hg _ (by omega), hg _ (by omega)]; exact h2
    · rw [hg _ (by omega)]; exact h3
    · rw [hg _ (by omega)]; exact h4
    · rw [hg _ (by omega)]; exact h5
    · rw [hg _ (by omega)]; exact h6
theorem VR_cg {g g' : Nat → Int} (hg : ∀ k, k < 170 → g' k = g k) (hv : VR g) : VR g' := by
  obtain ⟨a, b, c, d, e, f⟩ := hv
  have a' := a
  unfold VN at a'
  refine ⟨?_, fun x hx => ?_, fun p hp => ?_, fun j hj => ?_, fun q hq => ?_, fun q r hq hr => ?_⟩
  · unfold VN
    rw [hg 0 (by omega), hg 1 (by omega), hg 2 (by omega), hg 3 (by omega), hg 4 (by omega)]
    exact a
  · rw [hg _ (by omega)]; exact b x hx
  · rw [hg 0 (by omega)] at hp
    have := c p hp
    unfold VP at this ⊢
    simp (disch := omega) only [hg]
    exact this
  · have := d j hj
    unfold VS at this ⊢
    simp (disch := omega) only [hg]
    exact this
  · rw [hg 1 (by omega)] at hq
    have := e q hq
    unfold VQ at this ⊢
    simp (disch := omega) only [hg]
    exact this
  · rw [hg 1 (by omega)] at hq hr
    have := f q r hq hr
    simp (disch := omega) only [hg]
    exact this
-- one thing copied
theorem X4_copyFrom {fl : Nat} {s : Mem} {a b : Nat} (hab : a ≠ b) : ∃ s', F_X4_copyFrom fl a b s = some s' ∧ FG s s' (fun k j => k = a ∧ j < 5) ∧ ∀ f, f < 5 → iI s' a f = iI s b f := by
  unfold F_X4_copyFrom
  simp only [nx_eq]
  refine ⟨_, rfl, ?_, ?_⟩
  · refine FG_trans (FG_trans (FG_trans (FG_trans (FG_p _ _ _ _ ?_) (FG_p _ _ _ _ ?_)) (FG_p _ _ _ _ ?_)) (FG_p _ _ _ _ ?_)) (FG_p _ _ _ _ ?_) <;> omega
  · intro f hf
    have : f = 0 ∨ f = 1 ∨ f = 2 ∨ f = 3 ∨ f = 4 := by omega
    rcases this with rfl | rfl | rfl | rfl | rfl <;> simp (disch := omega) only [iI, gI_p, if_neg, if_pos, hab, Ne.symm hab, and_true, true_and, false_and, and_false, if_true, if_false] <;> rfl
theorem X6_copyFrom {fl : Nat} {s : Mem} {a b : Nat} (hab : a ≠ b) : ∃ s', F_X6_copyFrom fl a b s = some s' ∧ FG s s' (fun k j => k = a ∧ j < 3) ∧ ∀ f, f < 3 → iI s' a f = iI s b f := by
  unfold F_X6_copyFrom
  simp only [nx_eq]
  refine ⟨_, rfl, ?_, ?_⟩
  · refine FG_trans (FG_trans (FG_p _ _ _ _ ?_) (FG_p _ _ _ _ ?_)) (FG_p _ _ _ _ ?_) <;> omega
  · intro f hf
    have : f = 0 ∨ f = 1 ∨ f = 2 := by omega
    rcases this with rfl | rfl | rfl <;> simp (disch := omega) only [iI, gI_p, if_neg, if_pos, hab, Ne.symm hab, and_true, true_and, false_and, and_false, if_true, if_false] <;> rfl
