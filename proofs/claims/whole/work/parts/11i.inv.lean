def Cst (s : Mem) : Prop := gR s 323 0 = some 322 ∧ iI s 324 0 = -1 ∧ iI s 325 0 = -1 ∧ iI s 327 0 = -1
def Cmp (s : Mem) : Prop := VR (iI s 341) ∧ CR s 0 (iI s 341)
def Snp (s : Mem) : Prop := iI s 320 3 = iI s 340 3 ∧ 0 ≤ iI s 340 3 ∧ iI s 340 3 ≤ 1 ∧ (iI s 340 3 = 1 → VR (rwR s 9) ∧ CR s 32 (rwR s 9))
def Rsn (s : Mem) : Prop := iI s 320 6 = iI s 340 14 ∧ 0 ≤ iI s 340 14 ∧ iI s 340 14 ≤ 5
def Lat (s : Mem) : Prop := iI s 320 7 = iI s 340 15 ∧ 0 ≤ iI s 340 15 ∧ iI s 340 15 ≤ 2 ∧ ∀ k : Nat, k < 6 → (k : Int) < 3 * iI s 340 15 → iI s 339 k = iI s 348 k
def Txt (s : Mem) : Prop := (iI s 336 1 = iI s 340 18 ∧ 0 ≤ iI s 340 18 ∧ iI s 340 18 ≤ 30) ∧ (iI s 336 3 = iI s 340 21 ∧ -1 ≤ iI s 340 21 ∧ iI s 340 21 ≤ 30) ∧ ∀ k : Nat, k < 30 → (k : Int) < iI s 340 18 → iI s 337 k = iI s 349 k ∧ 0 ≤ iI s 349 k ∧ iI s 349 k < 65536
def Inv (s : Mem) : Prop := RO s ∧ Cst s ∧ Cmp s ∧ (∃ c m, Hist s c m) ∧ Snp s ∧ Rsn s ∧ Lat s ∧ Txt s
theorem Cst_FG {s s' : Mem} {C : Nat → Nat → Prop} (h : FG s s' C) (hC : ¬ C 324 0 ∧ ¬ C 325 0 ∧ ¬ C 327 0) (hs : Cst s) : Cst s' := ⟨(h.2 323 0 (Or.inr rfl)).trans hs.1, (FG_I h hC.1).trans hs.2.1, (FG_I h hC.2.1).trans hs.2.2.1, (FG_I h hC.2.2).trans hs.2.2.2⟩
theorem Cmp_FG {s s' : Mem} {C : Nat → Nat → Prop} (h : FG s s' C) (hC : ∀ k j, C k j → 26 < k ∧ (k = 341 → 170 ≤ j)) (hs : Cmp s) : Cmp s' := by
  have e : ∀ k, k < 170 → iI s' 341 k = iI s 341 k := fun k hk => FG_I h (fun q => by have := hC _ _ q; omega)
  refine ⟨VR_cg e hs.1, CR_cg e (VRn hs.1) (CR_FG h ?_ (VRn hs.1) hs.2)⟩
  intro k j h1 h2 q
  have := hC _ _ q
  omega
theorem HR_FG {s s' : Mem} {C : Nat → Nat → Prop} (h : FG s s' C) {c m : Nat} (hC : ∀ k j, C k j → (k < 64 ∨ 320 ≤ k) ∧ (k = 341 → j < 170 ∨ 1530 ≤ j)) (h8 : c ≤ 8) (hs : HR s c m) : HR s' c m := by
  intro r h1 h2
  obtain ⟨v1, v2⟩ := hs r h1 h2
  have e : ∀ k, k < 170 → rwR s' r k = rwR s r k := fun k hk => FG_I h (fun q => by have := hC _ _ q; omega)
  refine ⟨VR_cg e v1, CR_cg e (VRn v1) (CR_FG h ?_ (VRn v1) v2)⟩
  intro k j h1 h2 q
  have := hC _ _ q
  omega
theorem Hist_FG {s s' : Mem} {C : Nat → Nat → Prop} (h : FG s s' C) {c m : Nat} (hC : ∀ k j, C k j → (k < 64 ∨ 320 ≤ k) ∧ (k = 341 → j < 170 ∨ 1530 ≤ j) ∧ k ≠ 334 ∧ (k = 340 → j ≠ 2)) (hs : Hist s c m) : Hist s' c m := by
  obtain ⟨⟨a1, a2, a3, a4, a5⟩, hr⟩ := hs
  refine ⟨⟨?_, ?_, ?_, a4, a5⟩, HR_FG h (fun k j q => ⟨(hC k j q).1, (hC k j q).2.1⟩) a4 hr⟩
  · rw [FG_I h (fun q => by have := hC _ _ q; omega)]; exact a1
  · rw [FG_I h (fun q => by have := hC _ _ q; omega)]; exact a2
  · rw [FG_I h (fun q => by have := hC _ _ q; omega)]; exact a3
theorem Snp_FG {s s' : Mem} {C : Nat → Nat → Prop} (h : FG s s' C) (hC : ∀ k j, C k j → (k < 32 ∨ 58 < k) ∧ (k = 341 → j < 1530) ∧ ((k = 320 ∨ k = 340) → j ≠ 3)) (hs : Snp s) : Snp s' := by
  obtain ⟨a1, a2, a3, a4⟩ := hs
  have e1 : iI s' 320 3 = iI s 320 3 := FG_I h (fun q => by have := hC _ _ q; omega)
  have e2 : iI s' 340 3 = iI s 340 3 := FG_I h (fun q => by have := hC _ _ q; omega)
  refine ⟨by rw [e1, e2]; exact a1, by rw [e2]; exact a2, by rw [e2]; exact a3, fun h1 => ?_⟩
  rw [e2] at h1
  obtain ⟨v1, v2⟩ := a4 h1
  have e : ∀ k, k < 170 → rwR s' 9 k = rwR s 9 k := fun k hk => FG_I h (fun q => by have := hC _ _ q; omega)
  refine ⟨VR_cg e v1, CR_cg e (VRn v1) (CR_FG h ?_ (VRn v1) v2)⟩
  intro k j h1 h2 q
  have := hC _ _ q
  omega
theorem Rsn_FG {s s' : Mem} {C : Nat → Nat → Prop} (h : FG s s' C) (hC : ¬ C 320 6 ∧ ¬ C 340 14) (hs : Rsn s) : Rsn s' := by
  unfold Rsn
  rw [FG_I h hC.1, FG_I h hC.2]
  exact hs
theorem Lat_FG {s s' : Mem} {C : Nat → Nat → Prop} (h : FG s s' C) (hC : ∀ k j, C k j → (k = 320 → j ≠ 7) ∧ (k = 340 → j ≠ 15) ∧ k ≠ 339 ∧ k ≠ 348) (hs : Lat s) : Lat s' := by
  unfold Lat
  rw [FG_I h (fun q => by have := hC _ _ q; omega), FG_I h (fun q => by have := hC _ _ q; omega)]
  refine ⟨hs.1, hs.2.1, hs.2.2.1, fun k h1 h2 => ?_⟩
  rw [FG_I h (fun q => by have := hC _ _ q; omega), FG_I h (fun q => by have := hC _ _ q; omega)]
  exact hs.2.2.2 k h1 h2
theorem Txt_FG {s s' : Mem} {C : Nat → Nat → Prop} (h : FG s s' C) (hC : ∀ k j, C k j → (k = 336 → j ≠ 1 ∧ j ≠ 3) ∧ (k = 340 → j ≠ 18 ∧ j ≠ 21) ∧ k ≠ 337 ∧ k ≠ 349) (hs : Txt s) : Txt s' := by
  unfold Txt
  rw [FG_I h (fun q => by have := hC _ _ q; omega), FG_I h (fun q => by have := hC _ _ q; omega), FG_I h (fun q => by have := hC _ _ q; omega), FG_I h (fun q => by have := hC _ _ q; omega)]
  refine ⟨hs.1, hs.2.1, fun k h1 h2 => ?_⟩
  rw [FG_I h (fun q => by have := hC _ _ q; omega), FG_I h (fun q => by have := hC _ _ q; omega)]
  exact hs.2.2 k h1 h2
-- what questions write
def scC (k j : Nat) : Prop := k = 340 ∧ (j = 0 ∨ j = 8 ∨ j = 9 ∨ j = 10 ∨ j = 11 ∨ j = 19 ∨ j = 20) ∨ 342 ≤ k ∧ k ≤ 347 ∨ 350 ≤ k ∨ k = 321 ∧ j = 2 ∨ k = 322 ∨ (k = 324 ∨ k = 325 ∨ k = 327) ∧ 1 ≤ j ∨ k = 326 ∨ 328 ≤ k ∧ k ≤ 333
theorem Inv_sc {s s' : Mem} (h : FG s s' scC) (hI : Inv s) : Inv s' := by
  obtain ⟨hs, h1, h2, ⟨c, m, h3⟩, h4, h5, h6, h7⟩ := hI
  refine ⟨FG_RO h hs, Cst_FG h (by unfold scC; omega) h1, Cmp_FG h (by unfold scC; omega) h2, ⟨c, m, Hist_FG h (by unfold scC; omega) h3⟩, Snp_FG h (by unfold scC; omega) h4, Rsn_FG h (by unfold scC; omega) h5, Lat_FG h (by unfold scC; omega) h6, Txt_FG h (by unfold scC; omega) h7⟩
-- what is loaded, with all values
def LDs (s M : Mem) (w : Int) : Prop := (∀ k, iI M 341 k = iI s 341 k) ∧ ∀ q, q ≤ 12 → LD s M w q
theorem ldV_12 {s : Mem} (h : iI s 341 1 ≤ 12) (w : Int) (f : Nat) (d : Int) : ldV s w 12 f d = d := if_neg (by unfold ldB; omega)
theorem LDs_LT {s M : Mem} {w : Int} (hv : VR (iI s 341)) (h : LDs s M w) : LT s M (iI M 342) w := by
  have b := VRn hv
  unfold VN at b
  refine ⟨h.1, ?_, fun q hq => ⟨fun hB => ?_, fun hB => ?_⟩⟩
  · have := (h.2 12 (by omega)).1
    rw [ldV_12 (by omega)] at this
    exact this
  · obtain ⟨a1, a2, a3, a4⟩ := h.2 q (by omega)
    refine ⟨a1.trans (if_pos hB), a2.trans (if_pos hB), a3.trans (if_pos hB), a4.trans (if_pos hB)⟩
  · exact (h.2 q (by omega)).1.trans (if_neg hB)
theorem LDs_vF {s M : Mem} {w : Int} (hv : VR (iI s 341)) (h : LDs s M w) : vF M := by
  have b := VRn hv
  unfold VN at b
  intro q hq
  obtain ⟨a1, a2, a3, a4⟩ := h.2 q hq
  rw [a2, a3, a4]
  unfold ldV
  by_cases hB : ldB s w q
  · have d := VRq hv (q := q) hB.1
    unfold VQ at d
    rw [if_pos hB, if_pos hB, if_pos hB]
    omega
  · rw [if_neg hB, if_neg hB, if_neg hB]
    omega
theorem LDs_AG {s M s' M' : Mem} {w : Int} (h : LDs s M w) (h' : LDs s' M' w) (e : ∀ k, iI s' 341 k = iI s 341 k) : AG M M' ∧ ∀ q, q ≤ 12 → iI M' 342 q = iI M 342 q := by
  have ev : ∀ q f d, ldV s' w q f d = ldV s w q f d := fun q f d => by
    unfold ldV ldB
    rw [e, e, e]
  refine ⟨⟨fun k => by rw [h'.1, h.1, e], fun q hq => ?_⟩, fun q hq => ?_⟩
  · obtain ⟨a1, a2, a3, a4⟩ := h.2 q hq
    obtain ⟨b1, b2, b3, b4⟩ := h'.2 q hq
    rw [a2, a3, a4, b2, b3, b4, ev, ev, ev]
    exact ⟨rfl, rfl, rfl⟩
  · rw [(h.2 q hq).1, (h'.2 q hq).1, ev]
theorem X8_loadsS {fl : Nat} (hfl : 1000 ≤ fl) {s : Mem} (hs : RO s) (hv : VR (iI s 341)) {w : Int} (h1 : -2147483648 ≤ w) (h2 : w < 2147483648) : ∃ M, F_X8_loads fl 340 (oI w) s = some M ∧ FI s M (fun k j => 342 ≤ k ∧ k ≤ 345 ∧ j ≤ 12) ∧ LDs s M w := by
  have b := VRn hv
  unfold VN at b
  obtain ⟨M, g1, g2, g3⟩ := X8_loads (fl := fl) hfl hs h1 h2 (by omega) (by omega)
  exact ⟨M, g1, g2, fun k => g2.2 341 k (by omega), g3⟩
theorem LDs_pl {s M : Mem} {w : Int} (hv : VR (iI s 341)) (h : LDs s M w) {q : Nat} (hq : q ≤ 12) : -1 ≤ iI M 342 q ∧ iI M 342 q < iI s 341 0 ∧ iI M 342 q < 6 := by
  have b := VRn hv
  unfold VN at b
  rw [(h.2 q hq).1]
  unfold ldV
  by_cases hB : ldB s w q
  · have d := VRq hv (q := q) hB.1
    unfold VQ at d
    rw [if_pos hB]
    omega
  · rw [if_neg hB]
    omega
theorem vT_of {M : Mem} (hF : vF M) (hp : ∀ q, q ≤ 12 → -1 ≤ iI M 342 q ∧ iI M 342 q < 6) : vT M := fun q hq => by
  have a := hF q hq
  have b := hp q hq
  omega
-- the answers of both to one call
def Ans (fL f8 : Mem → Option (Int32 × Mem)) (s : Mem) : Prop := ∃ k s1 v s2, fL s = some (k, s1) ∧ f8 s1 = some (v, s2) ∧ gI s2 340 0 = k ∧ (k = 0 → gL s2 350 0 = Int32.toInt64 v) ∧ Inv s2
