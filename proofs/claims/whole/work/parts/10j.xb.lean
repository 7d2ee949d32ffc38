-- s but for what int cells of C hold
def FI (s s' : Mem) (C : Nat → Nat → Prop) : Prop := s'.2 = s.2 ∧ ∀ k j, ¬ C k j → iI s' k j = iI s k j
theorem FI_refl (s : Mem) (C : Nat → Nat → Prop) : FI s s C := ⟨rfl, fun _ _ _ => rfl⟩
theorem FI_trans {s s' s'' : Mem} {C : Nat → Nat → Prop} (h : FI s s' C) (h2 : FI s' s'' C) : FI s s'' C := ⟨h2.1.trans h.1, fun k j hc => (h2.2 k j hc).trans (h.2 k j hc)⟩
theorem FI_mono {s s' : Mem} {C D : Nat → Nat → Prop} (h : FI s s' C) (hc : ∀ k j, C k j → D k j) : FI s s' D := ⟨h.1, fun k j hd => h.2 k j (fun q => hd (hc k j q))⟩
theorem FI_p (s : Mem) (k j : Nat) (v : Int32) {C : Nat → Nat → Prop} (hc : C k j) : FI s (pI s k j v) C := by
  refine ⟨rfl, fun a b h => ?_⟩
  unfold iI
  rw [gI_p, if_neg]
  intro q
  rw [q.1, q.2] at h
  exact h hc
theorem FI_RO {s s' : Mem} {C : Nat → Nat → Prop} (h : FI s s' C) (hs : RO s) : RO s' := by
  intro k j r hr
  have := hs k j r hr
  unfold gR at this ⊢
  rw [h.1]
  exact this
theorem FI_L {s s' : Mem} {C : Nat → Nat → Prop} (h : FI s s' C) (k j : Nat) : gL s' k j = gL s k j := by
  unfold gL
  rw [h.1]
theorem FI_R {s s' : Mem} {C : Nat → Nat → Prop} (h : FI s s' C) (k j : Nat) : gR s' k j = gR s k j := by
  unfold gR
  rw [h.1]
theorem iI_inj {s s' : Mem} (h : s'.2 = s.2) (h2 : ∀ k j, iI s' k j = iI s k j) : s' = s := by
  refine Prod.ext ?_ h
  funext k j
  have := h2 k j
  unfold iI at this
  exact Int32.toInt_inj.mp this
theorem iI_pe {s : Mem} {k j : Nat} {v : Int} (h : -2147483648 ≤ v) (h2 : v < 2147483648) : iI (pI s k j (oI v)) k j = v := by
  rw [iI_p h h2, if_pos ⟨rfl, rfl⟩]
theorem iI_pn {s : Mem} {k j : Nat} {v : Int32} {a b : Nat} (h : a ≠ k ∨ b ≠ j) : iI (pI s k j v) a b = iI s a b := by
  unfold iI
  rw [gI_p, if_neg]
  intro q
  omega
