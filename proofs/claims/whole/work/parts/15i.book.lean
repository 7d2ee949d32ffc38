theorem book_VD {M0 : Mem} {h h' : Nat → Int} {x c : Nat} {W : Nat → Nat} {T : Nat → Int} (hF : vF M0) (hVD : VD h) (hx : h 1 = x) (h1 : h' 1 = ((x + 1 : Nat) : Int)) (hx12 : x < 12) (al : ∀ i, i < c + 1 → alT M0 T (W i)) (W0 : W 0 = 12) (W12 : ∀ i, i ≤ c → W i ≤ 12)
    (nx6 : T 12 = h' (50 + 10 * x + 6)) (nx4 : iI M0 343 12 = h' (50 + 10 * x + 4)) (nx5 : iI M0 344 12 = h' (50 + 10 * x + 5)) (old : ∀ q, q < x → h' (50 + 10 * q + 4) = h (50 + 10 * q + 4) ∧ h' (50 + 10 * q + 5) = h (50 + 10 * q + 5) ∧ h' (50 + 10 * q + 8) = h (50 + 10 * q + 8))
    (ldx : ∀ q, q < x → h (50 + 10 * q + 8) = 1 → iI M0 343 q = h (50 + 10 * q + 4) ∧ iI M0 344 q = h (50 + 10 * q + 5) ∧ T q = h' (50 + 10 * q + 6)) (unm : ∀ q, q < x → (∀ i, i ≤ c → W i ≠ q) → h' (50 + 10 * q + 6) = h (50 + 10 * q + 6)) (pos : ∀ q, q < x + 1 → 0 ≤ h' (50 + 10 * q + 4) ∧ 1 ≤ h' (50 + 10 * q + 5)) : VD h' := by
  have key : ∀ q, q < x + 1 → h' (50 + 10 * q + 8) = 1 → ∃ y, y ≤ 12 ∧ (q < x → y = q) ∧ (q = x → y = 12) ∧ T y = h' (50 + 10 * q + 6) ∧ iI M0 343 y = h' (50 + 10 * q + 4) ∧ iI M0 344 y = h' (50 + 10 * q + 5) := by
    intro q hq hb
    by_cases e : q = x
    · subst e
      exact ⟨12, by omega, by omega, fun _ => rfl, nx6, nx4, nx5⟩
    · obtain ⟨o1, o2, o3⟩ := old q (by omega)
      obtain ⟨l1, l2, l3⟩ := ldx q (by omega) (by omega)
      exact ⟨q, by omega, fun _ => rfl, by omega, l3, by omega, by omega⟩
  -- one of two is placed by the plan
  have one : ∀ y z : Nat, y ≤ 12 → z ≤ 12 → y ≠ z → (∃ i, i < c + 1 ∧ W i = y) → T y = T z → ∀ fy ny fz nz : Int, iI M0 343 y = fy → iI M0 344 y = ny → iI M0 343 z = fz → iI M0 344 z = nz → 0 ≤ fy → 1 ≤ ny → 0 ≤ fz → 1 ≤ nz → fy + ny ≤ fz ∨ fz + nz ≤ fy := by
    intro y z hy hz hyz hi hT fy ny fz nz e1 e2 e3 e4 p1 p2 p3 p4
    obtain ⟨i, i1, i2⟩ := hi
    have a := (alT_iff hF T (by rw [i2]; exact hy)).mp (al i i1) z hz (by rw [i2]; exact Ne.symm hyz) (by rw [i2]; exact hT.symm)
    have a1 := a fy.toNat
    have a2 := a fz.toNat
    rw [i2] at a1 a2
    unfold inN at a1 a2
    rw [e1, e2, e3, e4] at a1 a2
    omega
  intro q r hq hr hne hb1 hb2 hat
  rw [h1] at hq hr
  obtain ⟨y, y1, y2, y3, y4, y5, y6⟩ := key q (by omega) hb1
  obtain ⟨z, z1, z2, z3, z4, z5, z6⟩ := key r (by omega) hb2
  have pq := pos q (by omega)
  have pr := pos r (by omega)
  have yz : y ≠ z := by omega
  by_cases hy : ∃ i, i < c + 1 ∧ W i = y
  · exact one y z y1 z1 yz hy (by omega) _ _ _ _ y5 y6 z5 z6 pq.1 pq.2 pr.1 pr.2
  · by_cases hz : ∃ i, i < c + 1 ∧ W i = z
    · have := one z y z1 y1 (Ne.symm yz) hz (by omega) _ _ _ _ z5 z6 y5 y6 pr.1 pr.2 pq.1 pq.2
      omega
    · have hqx : q < x := by
        apply Classical.byContradiction
        intro w
        exact hy ⟨0, by omega, by rw [W0, y3 (by omega)]⟩
      have hrx : r < x := by
        apply Classical.byContradiction
        intro w
        exact hz ⟨0, by omega, by rw [W0, z3 (by omega)]⟩
      obtain ⟨o1, o2, o3⟩ := old q hqx
      obtain ⟨o4, o5, o6⟩ := old r hrx
      have u1 := unm q hqx (fun i hi w => hy ⟨i, by omega, by rw [w, y2 hqx]⟩)
      have u2 := unm r hrx (fun i hi w => hz ⟨i, by omega, by rw [w, z2 hrx]⟩)
      have := hVD q r (by omega) (by omega) hne (by omega) (by omega) (by omega)
      omega
def mdB (k j : Nat) : Prop := mdC k j ∨ k = 340 ∧ 18 ≤ j
theorem InvB_keep {s s1 s2 s5 s6 : Mem} {c m : Nat} (hI : InvB s) (hh : Hist s c m) (F1 : FG s s1 (kpC m)) (h1 : iI s1 334 1 = ((m + 1) % 8 : Nat)) (h2 : iI s1 334 2 = ((if c = 8 then 8 else c + 1 : Nat) : Int)) (h3 : CR s1 (64 + 32 * m) (iI s 341))
    (F2 : FG s1 s2 mdB) (hk : KP s2 s5 c) (F6 : FG s5 s6 r0C) (hC : Cmp s6) (hL : Lat s6) : InvB s6 := by
  obtain ⟨hs, i1, i2, -, i4, i5, i6⟩ := hI
  have m8 := hh.1.2.2.2.2
  have hi := hist_keep hh i2.1 F1 h1 h2 h3 F2 (by unfold mdB mdC scC; omega) hk
  have F5 : FG s2 s5 (fun k j => k = 340 ∧ j = 2 ∨ k = 341 ∧ 170 ≤ j ∧ j < 1530) := FG_FI hk.1
  have F : FG s s6 (fun k j => kpC m k j ∨ mdB k j ∨ (k = 340 ∧ j = 2 ∨ k = 341 ∧ 170 ≤ j ∧ j < 1530) ∨ r0C k j) := FG_trans (FG_mono F1 (fun k j h => Or.inl h)) (FG_trans (FG_mono F2 (fun k j h => Or.inr (Or.inl h))) (FG_trans (FG_mono F5 (fun k j h => Or.inr (Or.inr (Or.inl h)))) (FG_mono F6 (fun k j h => Or.inr (Or.inr (Or.inr h))))))
  refine ⟨FG_RO F hs, Cst_FG F ?_ i1, hC, ⟨_, _, Hist_FG F6 (by unfold r0C; omega) hi⟩, Snp_FG F ?_ i4, Rsn_FG F ?_ i5, hL⟩
  · unfold kpC cpC mdB mdC scC r0C; omega
  · unfold kpC cpC mdB mdC scC r0C; omega
  · unfold kpC cpC mdB mdC scC r0C; omega
