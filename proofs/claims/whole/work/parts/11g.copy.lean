theorem stI (s : Mem) (a j : Nat) {v : Int} (h : -2147483648 ≤ v) (h2 : v < 2147483648) : ∃ s', pI s a j (oI v) = s' ∧ FG s s' (fun k i => k = a ∧ i = j) ∧ iI s' a j = v := ⟨_, rfl, FG_p _ _ _ _ ⟨rfl, rfl⟩, iI_pe h h2⟩
theorem stL (s : Mem) (a j : Nat) (v : Int64) : ∃ s', pL s a j v = s' ∧ FG s s' (fun k i => k = a ∧ i = j) ∧ gL s' a j = v := ⟨_, rfl, FG_pL _ _ _ _ ⟨rfl, rfl⟩, by rw [gL_p, if_pos ⟨rfl, rfl⟩]⟩
theorem X3_copyFrom {fl : Nat} {s : Mem} {a b : Nat} (hab : a ≠ b) {g : Nat → Int} {q : Nat} (hp : PR s b g q) (h0 : 0 ≤ g (50 + 10 * q + 8)) (h1 : g (50 + 10 * q + 8) ≤ 1) : ∃ s', F_X3_copyFrom fl a b s = some s' ∧ FG s s' (fun k j => k = a) ∧ PR s' a g q := by
  obtain ⟨q1, q2, q3, q4, q5, q6⟩ := hp
  have hba := Ne.symm hab
  unfold F_X3_copyFrom
  simp only [nx_eq, gI_oI]
  obtain ⟨m0, e0, F0, w0⟩ := stI s a 0 (iI_lo s b 0) (iI_hi s b 0)
  rw [e0]
  have G : FG s m0 (fun k j => k = a) := FG_mono F0 (fun k j h => h.1)
  obtain ⟨m1, e1, F1, w1⟩ := stI m0 a 1 (iI_lo m0 b 1) (iI_hi m0 b 1)
  rw [e1]
  rw [FG_I G (by omega)] at w1
  have G := FG_trans G (FG_mono F1 (fun k j h => h.1))
  obtain ⟨m2, e2, F2, w2⟩ := stI m1 a 2 (iI_lo m1 b 2) (iI_hi m1 b 2)
  rw [e2]
  rw [FG_I G (by omega)] at w2
  have G := FG_trans G (FG_mono F2 (fun k j h => h.1))
  obtain ⟨m3, e3, F3, w3⟩ := stI m2 a 3 (iI_lo m2 b 3) (iI_hi m2 b 3)
  rw [e3]
  rw [FG_I G (by omega)] at w3
  have G := FG_trans G (FG_mono F3 (fun k j h => h.1))
  obtain ⟨m4, e4, F4, w4⟩ := stI m3 a 4 (iI_lo m3 b 4) (iI_hi m3 b 4)
  rw [e4]
  rw [FG_I G (by omega)] at w4
  have G := FG_trans G (FG_mono F4 (fun k j h => h.1))
  obtain ⟨m5, e5, F5, w5⟩ := stI m4 a 5 (iI_lo m4 b 5) (iI_hi m4 b 5)
  rw [e5]
  rw [FG_I G (by omega)] at w5
  have G := FG_trans G (FG_mono F5 (fun k j h => h.1))
  obtain ⟨m6, e6, F6, w6⟩ := stL m5 a 6 (gL m5 b 6)
  rw [e6]
  rw [FG_L G (by omega)] at w6
  have G := FG_trans G (FG_mono F6 (fun k j h => h.1))
  obtain ⟨m7, e7, F7, w7⟩ := stI m6 a 7 (iI_lo m6 b 7) (iI_hi m6 b 7)
  rw [e7]
  rw [FG_I G (by omega)] at w7
  have G := FG_trans G (FG_mono F7 (fun k j h => h.1))
  obtain ⟨m8, e8, F8, w8⟩ := stI m7 a 8 (iI_lo m7 b 8) (iI_hi m7 b 8)
  rw [e8]
  rw [FG_I G (by omega)] at w8
  have G := FG_trans G (FG_mono F8 (fun k j h => h.1))
  obtain ⟨m9, e9, F9, w9⟩ := stI m8 a 9 (iI_lo m8 b 9) (iI_hi m8 b 9)
  rw [e9]
  rw [FG_I G (by omega)] at w9
  have G := FG_trans G (FG_mono F9 (fun k j h => h.1))
  have e10' : iI m9 b 10 = g (50 + 10 * q + 8) := by
    rw [FG_I G (by omega)]; exact q6
  rw [gd_t (by rw [e10', oI_lit, oI_lit, oI_eq (by omega) (by omega) (by omega) (by omega), oI_eq (by omega) (by omega) (by omega) (by omega)]; show _ = 0 ∨ _ = 1; omega)]
  obtain ⟨m10, e10, F10, w10⟩ := stI m9 a 10 (iI_lo m9 b 10) (iI_hi m9 b 10)
  rw [e10]
  rw [FG_I G (by omega)] at w10
  have G := FG_trans G (FG_mono F10 (fun k j h => h.1))
  refine ⟨m10, rfl, G, fun f hf => ?_, ?_, ?_, ?_, ?_, ?_⟩
  · rw [← q1 f hf]
    have : f = 0 ∨ f = 1 ∨ f = 2 ∨ f = 3 ∨ f = 4 ∨ f = 5 := by omega
    rcases this with rfl | rfl | rfl | rfl | rfl | rfl
    · rw [FG_I F10 (by omega), FG_I F9 (by omega), FG_I F8 (by omega), FG_I F7 (by omega), FG_I F6 (by omega), FG_I F5 (by omega), FG_I F4 (by omega), FG_I F3 (by omega), FG_I F2 (by omega), FG_I F1 (by omega)]; exact w0
    · rw [FG_I F10 (by omega), FG_I F9 (by omega), FG_I F8 (by omega), FG_I F7 (by omega), FG_I F6 (by omega), FG_I F5 (by omega), FG_I F4 (by omega), FG_I F3 (by omega), FG_I F2 (by omega)]; exact w1
    · rw [FG_I F10 (by omega), FG_I F9 (by omega), FG_I F8 (by omega), FG_I F7 (by omega), FG_I F6 (by omega), FG_I F5 (by omega), FG_I F4 (by omega), FG_I F3 (by omega)]; exact w2
    · rw [FG_I F10 (by omega), FG_I F9 (by omega), FG_I F8 (by omega), FG_I F7 (by omega), FG_I F6 (by omega), FG_I F5 (by omega), FG_I F4 (by omega)]; exact w3
    · rw [FG_I F10 (by omega), FG_I F9 (by omega), FG_I F8 (by omega), FG_I F7 (by omega), FG_I F6 (by omega), FG_I F5 (by omega)]; exact w4
    · rw [FG_I F10 (by omega), FG_I F9 (by omega), FG_I F8 (by omega), FG_I F7 (by omega), FG_I F6 (by omega)]; exact w5
  · rw [← q2, FG_L F10 (by omega), FG_L F9 (by omega), FG_L F8 (by omega), FG_L F7 (by omega)]; exact w6
  · rw [← q3, FG_I F10 (by omega), FG_I F9 (by omega), FG_I F8 (by omega)]; exact w7
  · rw [← q4, FG_I F10 (by omega), FG_I F9 (by omega)]; exact w8
  · rw [← q5, FG_I F10 (by omega)]; exact w9
  · rw [← q6]; exact w10
def Pp (s : Mem) (A : Nat) (g : Nat → Int) (i : Nat) : Prop := ∀ p f : Nat, (p : Int) < g 0 → p < i → f < 5 → iI s (A + 2 + p) f = g (8 + 5 * p + f)
def Pq (s : Mem) (A : Nat) (g : Nat → Int) (i : Nat) : Prop := ∀ q : Nat, (q : Int) < g 1 → q < i → PR s (A + 9 + q) g q
def Ps (s : Mem) (A : Nat) (g : Nat → Int) (i : Nat) : Prop := ∀ j f : Nat, (j : Int) < g 2 → j < i → f < 3 → iI s (A + 22 + j) f = g (38 + 3 * j + f)
theorem Pp_FG {s s' : Mem} {C : Nat → Nat → Prop} (h : FG s s' C) {A i : Nat} {g : Nat → Int} (hC : ∀ p f, p < i → ¬ C (A + 2 + p) f) (hp : Pp s A g i) : Pp s' A g i := fun p f h1 h2 h3 => by rw [FG_I h (hC p f h2)]; exact hp p f h1 h2 h3
theorem Ps_FG {s s' : Mem} {C : Nat → Nat → Prop} (h : FG s s' C) {A i : Nat} {g : Nat → Int} (hC : ∀ p f, p < i → ¬ C (A + 22 + p) f) (hp : Ps s A g i) : Ps s' A g i := fun p f h1 h2 h3 => by rw [FG_I h (hC p f h2)]; exact hp p f h1 h2 h3
theorem Pq_FG {s s' : Mem} {C : Nat → Nat → Prop} (h : FG s s' C) {A i : Nat} {g : Nat → Int} (hC : ∀ q f, q < i → ¬ C (A + 9 + q) f) (hp : Pq s A g i) : Pq s' A g i := fun q h1 h2 => PR_FG h (fun j => hC q j h2) (hp q h1 h2)
theorem X1_cp119 {fl A B : Nat} {g : Nat → Int} (hA : cA A) (hB : cA B) (hAB : A ≠ B) (hv : VR g) : ∀ (m i : Nat) (s : Mem) (k : Nat), i + m = 3 → m < k → RO s → CR s B g → iI s A 1 = g 0 → iI s A 3 = g 1 → iI s A 5 = g 2 → Pp s A g 6 → Pq s A g 12 → Ps s A g 4 → (∀ c, c < i → iI s (A + 26) c = g (5 + c)) →
    ∃ s', B_X1_copyFrom_119 fl k A B (oI i) s = some s' ∧ FG s s' (cpC A) ∧ CR s' A g := by
  have b := VRn hv
  unfold VN at b
  have hA' := hA
  have hB' := hB
  unfold cA at hA' hB'
  intro m
  induction m with
  | zero =>
    intro i s k h hk hs hb a1 a3 a5 pp pq ps pl
    obtain ⟨k, rfl⟩ : ∃ k', k = k' + 1 := ⟨k - 1, by omega⟩
    have F1 : FG s (pI s A 7 (oI (iI s B 7))) (fun k j => k = A ∧ (j = 7 ∨ j = 8)) := FG_p _ _ _ _ ⟨rfl, Or.inl rfl⟩
    have F2 : FG (pI s A 7 (oI (iI s B 7))) (pI (pI s A 7 (oI (iI s B 7))) A 8 (oI (iI s B 8))) (fun k j => k = A ∧ (j = 7 ∨ j = 8)) := FG_p _ _ _ _ ⟨rfl, Or.inr rfl⟩
    have F := FG_trans F1 F2
    refine ⟨pI (pI s A 7 (oI (iI s B 7))) A 8 (oI (iI s B 8)), ?_, FG_mono F (by unfold cpC; omega), ⟨⟨?_, ?_, ?_, ?_, ?_⟩, ?_, ?_, ?_, ?_⟩⟩
    · unfold B_X1_copyFrom_119
      simp (disch := omega) only [bd_some, nx_eq, xb_r, xb_l, xc_r, xc_l, oI_lit, oI_nI, oI_add, oI_sub, oI_mul, oI_neg, gI_oI, ldA_I, ldA_L, ldO_I, ldO_L, oB_z, oB_o, gd_oB, lgc0n, oI_litN, ← Int.natCast_add, ← Int.natCast_mul, Int.toNat_natCast, if_true, if_false, oI_le, oI_lt, oI_eq, oI_nat, oI_inR, gd_t]
      rw [if_pos (by omega), iI_pn (Or.inl (by omega))]
    · rw [FG_I F (by omega)]; exact a1
    · rw [FG_I F (by omega)]; exact a3
    · rw [FG_I F (by omega)]; exact a5
    · rw [iI_pe (iI_lo _ _ _) (iI_hi _ _ _)]; exact hb.1.2.2.2.1
    · rw [iI_pn (Or.inr (by omega)), iI_pe (iI_lo _ _ _) (iI_hi _ _ _)]; exact hb.1.2.2.2.2
    · intro c hc; rw [FG_I F (by omega)]; exact pl c (by omega)
    · intro p f hp hf; rw [FG_I F (by omega)]; exact pp p f hp (by omega) hf
    · intro p f hp hf; rw [FG_I F (by omega)]; exact ps p f hp (by omega) hf
    · intro q hq; exact PR_FG F (by omega) (pq q hq (by omega))
  | succ m ih =>
    intro i s k h hk hs hb a1 a3 a5 pp pq ps pl
    obtain ⟨k, rfl⟩ : ∃ k', k = k' + 1 := ⟨k - 1, by omega⟩
    have F : FG s (pI s (A + 26) i (oI (iI s (B + 26) i))) (fun k j => k = A + 26 ∧ j = i) := FG_p _ _ _ _ ⟨rfl, rfl⟩
    obtain ⟨s', g1, g2, g3⟩ := ih (i + 1) _ k (by omega) (by omega) (FG_RO F hs) (CR_FG F (by unfold out; omega) (VRn hv) hb) (by rw [FG_I F (by omega)]; exact a1) (by rw [FG_I F (by omega)]; exact a3) (by rw [FG_I F (by omega)]; exact a5)
      (Pp_FG F (by omega) pp) (Pq_FG F (by omega) pq) (Ps_FG F (by omega) ps) (fun c hc => by
        by_cases hci : c = i
        · subst hci; rw [iI_pe (iI_lo _ _ _) (iI_hi _ _ _)]; exact hb.2.1 c (by omega)
        · rw [FG_I F (by omega)]; exact pl c (by omega))
    refine ⟨s', ?_, FG_trans (FG_mono F (by unfold cpC; omega)) g2, g3⟩
    unfold B_X1_copyFrom_119
    simp (disch := omega) only [bd_some, nx_eq, xb_r, xb_l, xc_r, xc_l, oI_lit, oI_nI, oI_add, oI_sub, oI_mul, oI_neg, gI_oI, ldA_I, ldA_L, ldO_I, ldO_L, oB_z, oB_o, gd_oB, lgc0n, oI_litN, ← Int.natCast_add, ← Int.natCast_mul, Int.toNat_natCast, if_true, if_false, oI_le, oI_lt, oI_eq, oI_nat, oI_inR, gd_t, ld_c6 hs hA, ld_c6 hs hB]
    rw [if_neg (by omega)]
    exact g1
theorem X1_cp88 {fl A B : Nat} {g : Nat → Int} (hfl : 1000 ≤ fl) (hA : cA A) (hB : cA B) (hAB : A ≠ B) (hv : VR g) : ∀ (m i : Nat) (s : Mem) (k : Nat), g 2 = ((i + m : Nat) : Int) → m < k → RO s → CR s B g → iI s A 1 = g 0 → iI s A 3 = g 1 → iI s A 5 = g 2 → Pp s A g 6 → Pq s A g 12 → Ps s A g i →
    ∃ s', B_X1_copyFrom_88 fl k A B (oI i) s = some s' ∧ FG s s' (cpC A) ∧ CR s' A g := by
  have b := VRn hv
  unfold VN at b
  have hA' := hA
  have hB' := hB
  unfold cA at hA' hB'
  intro m
  induction m with
  | zero =>
    intro i s k h hk hs hb a1 a3 a5 pp pq ps
    obtain ⟨k, rfl⟩ : ∃ k', k = k' + 1 := ⟨k - 1, by omega⟩
    obtain ⟨s', g1, g2, g3⟩ := X1_cp119 (fl := fl) hA hB hAB hv 3 0 s fl (by omega) (by omega) hs hb a1 a3 a5 pp pq (fun j f hj _ hf => ps j f hj (by omega) hf) (fun c hc => by omega)
    refine ⟨s', ?_, g2, g3⟩
    unfold B_X1_copyFrom_88
    simp (disch := omega) only [bd_some, nx_eq, xb_r, xb_l, xc_r, xc_l, oI_lit, oI_nI, oI_add, oI_sub, oI_mul, oI_neg, gI_oI, ldA_I, ldA_L, ldO_I, ldO_L, oB_z, oB_o, gd_oB, lgc0n, oI_litN, ← Int.natCast_add, ← Int.natCast_mul, Int.toNat_natCast, if_true, if_false, oI_le, oI_lt, oI_eq, oI_nat, oI_inR, gd_t, a5]
    rw [if_pos (by omega)]
    exact g1
  | succ m ih =>
    intro i s k h hk hs hb a1 a3 a5 pp pq ps
    obtain ⟨k, rfl⟩ : ∃ k', k = k' + 1 := ⟨k - 1, by omega⟩
    obtain ⟨s1, f1, F, f3⟩ := X6_copyFrom (fl := fl) (s := s) (a := A + 22 + i) (b := B + 22 + i) (by omega)
    obtain ⟨s', g1, g2, g3⟩ := ih (i + 1) s1 k (by omega) (by omega) (FG_RO F hs) (CR_FG F (by unfold out; omega) (VRn hv) hb) (by rw [FG_I F (by omega)]; exact a1) (by rw [FG_I F (by omega)]; exact a3) (by rw [FG_I F (by omega)]; exact a5)
      (Pp_FG F (by omega) pp) (Pq_FG F (by omega) pq) (fun j f hj hji hf => by
        by_cases hc : j = i
        · subst hc; rw [f3 f hf]; exact hb.2.2.2.1 j f hj hf
        · rw [FG_I F (by omega)]; exact ps j f hj (by omega) hf)
    refine ⟨s', ?_, FG_trans (FG_mono F (by unfold cpC; omega)) g2, g3⟩
    unfold B_X1_copyFrom_88
    simp (disch := omega) only [bd_some, nx_eq, xb_r, xb_l, xc_r, xc_l, oI_lit, oI_nI, oI_add, oI_sub, oI_mul, oI_neg, gI_oI, ldA_I, ldA_L, ldO_I, ldO_L, oB_z, oB_o, gd_oB, lgc0n, oI_litN, ← Int.natCast_add, ← Int.natCast_mul, Int.toNat_natCast, if_true, if_false, oI_le, oI_lt, oI_eq, oI_nat, oI_inR, gd_t, a5, ld_c4 hs hA, ld_c4 hs hB, ld_cs hs hA, ld_cs hs hB, f1]
    rw [if_neg (by omega)]
    exact g1
theorem X1_cp49 {fl A B : Nat} {g : Nat → Int} (hfl : 1000 ≤ fl) (hA : cA A) (hB : cA B) (hAB : A ≠ B) (hv : VR g) : ∀ (m i : Nat) (s : Mem) (k : Nat), g 1 = ((i + m : Nat) : Int) → m < k → RO s → CR s B g → iI s A 1 = g 0 → iI s A 3 = g 1 → Pp s A g 6 → Pq s A g i →
    ∃ s', B_X1_copyFrom_49 fl k A B (oI i) s = some s' ∧ FG s s' (cpC A) ∧ CR s' A g := by
  have b := VRn hv
  unfold VN at b
  have hA' := hA
  have hB' := hB
  unfold cA at hA' hB'
  intro m
  induction m with
  | zero =>
    intro i s k h hk hs hb a1 a3 pp pq
    obtain ⟨k, rfl⟩ : ∃ k', k = k' + 1 := ⟨k - 1, by omega⟩
    have e5 : iI s B 5 = g 2 := hb.1.2.2.1
    have F : FG s (pI s A 5 (oI (iI s B 5))) (fun k j => k = A ∧ j = 5) := FG_p _ _ _ _ ⟨rfl, rfl⟩
    obtain ⟨s', g1, g2, g3⟩ := X1_cp88 (fl := fl) hfl hA hB hAB hv (g 2).toNat 0 _ fl (by omega) (by omega) (FG_RO F hs) (CR_FG F (by unfold out; omega) (VRn hv) hb) (by rw [FG_I F (by omega)]; exact a1) (by rw [FG_I F (by omega)]; exact a3) (by rw [iI_pe (iI_lo _ _ _) (iI_hi _ _ _)]; exact e5)
      (Pp_FG F (by omega) pp) (Pq_FG F (by omega) (fun q hq _ => pq q hq (by omega))) (fun j f hj hji hf => by omega)
    refine ⟨s', ?_, FG_trans (FG_mono F (by unfold cpC; omega)) g2, g3⟩
    unfold B_X1_copyFrom_49
    simp (disch := omega) only [bd_some, nx_eq, xb_r, xb_l, xc_r, xc_l, oI_lit, oI_nI, oI_add, oI_sub, oI_mul, oI_neg, gI_oI, ldA_I, ldA_L, ldO_I, ldO_L, oB_z, oB_o, gd_oB, lgc0n, oI_litN, ← Int.natCast_add, ← Int.natCast_mul, Int.toNat_natCast, if_true, if_false, oI_le, oI_lt, oI_eq, oI_nat, oI_inR, gd_t, a3]
    rw [if_pos (by omega)]
    exact g1
  | succ m ih =>
    intro i s k h hk hs hb a1 a3 pp pq
    obtain ⟨k, rfl⟩ : ∃ k', k = k' + 1 := ⟨k - 1, by omega⟩
    have vq := VRq hv (q := i) (by omega)
    unfold VQ at vq
    obtain ⟨s1, f1, F, f3⟩ := X3_copyFrom (fl := fl) (s := s) (a := A + 9 + i) (b := B + 9 + i) (by omega) (hb.2.2.2.2 i (by omega)) (by omega) (by omega)
    obtain ⟨s', g1, g2, g3⟩ := ih (i + 1) s1 k (by omega) (by omega) (FG_RO F hs) (CR_FG F (by unfold out; omega) (VRn hv) hb) (by rw [FG_I F (by omega)]; exact a1) (by rw [FG_I F (by omega)]; exact a3)
      (Pp_FG F (by omega) pp) (fun q hq hqi => by
        by_cases hc : q = i
        · subst hc; exact f3
        · exact PR_FG F (by omega) (pq q hq (by omega)))
    refine ⟨s', ?_, FG_trans (FG_mono F (by unfold cpC; omega)) g2, g3⟩
    unfold B_X1_copyFrom_49
    simp (disch := omega) only [bd_some, nx_eq, xb_r, xb_l, xc_r, xc_l, oI_lit, oI_nI, oI_add, oI_sub, oI_mul, oI_neg, gI_oI, ldA_I, ldA_L, ldO_I, ldO_L, oB_z, oB_o, gd_oB, lgc0n, oI_litN, ← Int.natCast_add, ← Int.natCast_mul, Int.toNat_natCast, if_true, if_false, oI_le, oI_lt, oI_eq, oI_nat, oI_inR, gd_t, a3, ld_c2 hs hA, ld_c2 hs hB, ld_cq hs hA, ld_cq hs hB, f1]
    rw [if_neg (by omega)]
    exact g1
theorem X1_cp10 {fl A B : Nat} {g : Nat → Int} (hfl : 1000 ≤ fl) (hA : cA A) (hB : cA B) (hAB : A ≠ B) (hv : VR g) : ∀ (m i : Nat) (s : Mem) (k : Nat), g 0 = ((i + m : Nat) : Int) → m < k → RO s → CR s B g → iI s A 1 = g 0 → Pp s A g i →
    ∃ s', B_X1_copyFrom_10 fl k A B (oI i) s = some s' ∧ FG s s' (cpC A) ∧ CR s' A g := by
  have b := VRn hv
  unfold VN at b
  have hA' := hA
  have hB' := hB
  unfold cA at hA' hB'
  intro m
  induction m with
  | zero =>
    intro i s k h hk hs hb a1 pp
    obtain ⟨k, rfl⟩ : ∃ k', k = k' + 1 := ⟨k - 1, by omega⟩
    have e3 : iI s B 3 = g 1 := hb.1.2.1
    have F : FG s (pI s A 3 (oI (iI s B 3))) (fun k j => k = A ∧ j = 3) := FG_p _ _ _ _ ⟨rfl, rfl⟩
    obtain ⟨s', g1, g2, g3⟩ := X1_cp49 (fl := fl) hfl hA hB hAB hv (g 1).toNat 0 _ fl (by omega) (by omega) (FG_RO F hs) (CR_FG F (by unfold out; omega) (VRn hv) hb) (by rw [FG_I F (by omega)]; exact a1) (by rw [iI_pe (iI_lo _ _ _) (iI_hi _ _ _)]; exact e3)
      (Pp_FG F (by omega) (fun p f hp _ hf => pp p f hp (by omega) hf)) (fun q hq hji => by omega)
    refine ⟨s', ?_, FG_trans (FG_mono F (by unfold cpC; omega)) g2, g3⟩
    unfold B_X1_copyFrom_10
    simp (disch := omega) only [bd_some, nx_eq, xb_r, xb_l, xc_r, xc_l, oI_lit, oI_nI, oI_add, oI_sub, oI_mul, oI_neg, gI_oI, ldA_I, ldA_L, ldO_I, ldO_L, oB_z, oB_o, gd_oB, lgc0n, oI_litN, ← Int.natCast_add, ← Int.natCast_mul, Int.toNat_natCast, if_true, if_false, oI_le, oI_lt, oI_eq, oI_nat, oI_inR, gd_t, a1]
    rw [if_pos (by omega)]
    exact g1
  | succ m ih =>
    intro i s k h hk hs hb a1 pp
    obtain ⟨k, rfl⟩ : ∃ k', k = k' + 1 := ⟨k - 1, by omega⟩
    obtain ⟨s1, f1, F, f3⟩ := X4_copyFrom (fl := fl) (s := s) (a := A + 2 + i) (b := B + 2 + i) (by omega)
    obtain ⟨s', g1, g2, g3⟩ := ih (i + 1) s1 k (by omega) (by omega) (FG_RO F hs) (CR_FG F (by unfold out; omega) (VRn hv) hb) (by rw [FG_I F (by omega)]; exact a1)
      (fun j f hj hji hf => by
        by_cases hc : j = i
        · subst hc; rw [f3 f hf]; exact hb.2.2.1 j f hj hf
        · rw [FG_I F (by omega)]; exact pp j f hj (by omega) hf)
    refine ⟨s', ?_, FG_trans (FG_mono F (by unfold cpC; omega)) g2, g3⟩
    unfold B_X1_copyFrom_10
    simp (disch := omega) only [bd_some, nx_eq, xb_r, xb_l, xc_r, xc_l, oI_lit, oI_nI, oI_add, oI_sub, oI_mul, oI_neg, gI_oI, ldA_I, ldA_L, ldO_I, ldO_L, oB_z, oB_o, gd_oB, lgc0n, oI_litN, ← Int.natCast_add, ← Int.natCast_mul, Int.toNat_natCast, if_true, if_false, oI_le, oI_lt, oI_eq, oI_nat, oI_inR, gd_t, a1, ld_c0 hs hA, ld_c0 hs hB, ld_cp hs hA, ld_cp hs hB, f1]
    rw [if_neg (by omega)]
    exact g1
theorem X1_copyFrom {fl A B : Nat} {g : Nat → Int} (hfl : 1000 ≤ fl) (hA : cA A) (hB : cA B) (hAB : A ≠ B) (hv : VR g) {s : Mem} (hs : RO s) (hb : CR s B g) : ∃ s', F_X1_copyFrom fl A B s = some s' ∧ FG s s' (cpC A) ∧ CR s' A g := by
  have b := VRn hv
  unfold VN at b
  have hA' := hA
  have hB' := hB
  unfold cA at hA' hB'
  have e1 : iI s B 1 = g 0 := hb.1.1
  have F : FG s (pI s A 1 (oI (iI s B 1))) (fun k j => k = A ∧ j = 1) := FG_p _ _ _ _ ⟨rfl, rfl⟩
  obtain ⟨s', g1, g2, g3⟩ := X1_cp10 (fl := fl) hfl hA hB hAB hv (g 0).toNat 0 _ fl (by omega) (by omega) (FG_RO F hs) (CR_FG F (by unfold out; omega) (VRn hv) hb) (by rw [iI_pe (iI_lo _ _ _) (iI_hi _ _ _)]; exact e1) (fun j f hj hji hf => by omega)
  refine ⟨s', ?_, FG_trans (FG_mono F (by unfold cpC; omega)) g2, g3⟩
  unfold F_X1_copyFrom
  simp only [nx_eq, gI_oI]
  exact g1
