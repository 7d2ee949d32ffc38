-- a camp at A holds the values of a row g
def PR (s : Mem) (k : Nat) (g : Nat → Int) (q : Nat) : Prop := (∀ f, f < 6 → iI s k f = g (50 + 10 * q + f)) ∧ gL s k 6 = mI (g (50 + 10 * q + 4)) (g (50 + 10 * q + 5)) ∧ iI s k 7 = g (50 + 10 * q + 6) ∧ iI s k 8 = g (50 + 10 * q + 7) ∧ iI s k 9 = g (50 + 10 * q + 9) ∧ iI s k 10 = g (50 + 10 * q + 8)
def CR (s : Mem) (A : Nat) (g : Nat → Int) : Prop :=
  (iI s A 1 = g 0 ∧ iI s A 3 = g 1 ∧ iI s A 5 = g 2 ∧ iI s A 8 = g 3 ∧ iI s A 7 = g 4) ∧ (∀ c, c < 3 → iI s (A + 26) c = g (5 + c)) ∧
  (∀ p f : Nat, (p : Int) < g 0 → f < 5 → iI s (A + 2 + p) f = g (8 + 5 * p + f)) ∧ (∀ j f : Nat, (j : Int) < g 2 → f < 3 → iI s (A + 22 + j) f = g (38 + 3 * j + f)) ∧
  ∀ q : Nat, (q : Int) < g 1 → PR s (A + 9 + q) g q
-- the values of a row are in their bounds
def VP (g : Nat → Int) (p : Nat) : Prop := 0 ≤ g (8 + 5 * p + 0) ∧ g (8 + 5 * p + 0) ≤ 2 ∧ 2 ≤ g (8 + 5 * p + 1) ∧ g (8 + 5 * p + 1) ≤ 12 ∧ 2 ≤ g (8 + 5 * p + 2) ∧ g (8 + 5 * p + 2) ≤ 12 ∧ -1 ≤ g (8 + 5 * p + 3) ∧ g (8 + 5 * p + 3) ≤ 2 ∧ 1 ≤ g (8 + 5 * p + 4) ∧ g (8 + 5 * p + 4) ≤ 99
def VS (g : Nat → Int) (j : Nat) : Prop := 0 ≤ g (38 + 3 * j + 0) ∧ g (38 + 3 * j + 0) ≤ 59 ∧ 0 ≤ g (38 + 3 * j + 1) ∧ g (38 + 3 * j + 1) ≤ 59 ∧ 0 ≤ g (38 + 3 * j + 2) ∧ g (38 + 3 * j + 2) ≤ 14
def VQ (g : Nat → Int) (q : Nat) : Prop := 0 ≤ g (50 + 10 * q + 0) ∧ g (50 + 10 * q + 0) ≤ 2 ∧ 1 ≤ g (50 + 10 * q + 1) ∧ g (50 + 10 * q + 1) ≤ 12 ∧ 1 ≤ g (50 + 10 * q + 2) ∧ g (50 + 10 * q + 2) ≤ 12 ∧ 0 ≤ g (50 + 10 * q + 3) ∧ g (50 + 10 * q + 3) ≤ 16 ∧ 0 ≤ g (50 + 10 * q + 4) ∧ 1 ≤ g (50 + 10 * q + 5) ∧ g (50 + 10 * q + 5) ≤ 14 ∧ g (50 + 10 * q + 4) + g (50 + 10 * q + 5) ≤ 60 ∧
  0 ≤ g (50 + 10 * q + 6) ∧ g (50 + 10 * q + 6) < g 0 ∧ 0 ≤ g (50 + 10 * q + 7) ∧ g (50 + 10 * q + 7) ≤ 2000 ∧ 0 ≤ g (50 + 10 * q + 8) ∧ g (50 + 10 * q + 8) ≤ 1 ∧ 0 ≤ g (50 + 10 * q + 9) ∧ g (50 + 10 * q + 9) ≤ 2000 ∧ (g (50 + 10 * q + 8) = 1 → g (50 + 10 * q + 9) = 0)
def VD (g : Nat → Int) : Prop := ∀ q r : Nat, (q : Int) < g 1 → (r : Int) < g 1 → q ≠ r → g (50 + 10 * q + 8) = 1 → g (50 + 10 * r + 8) = 1 → g (50 + 10 * q + 6) = g (50 + 10 * r + 6) → g (50 + 10 * q + 4) + g (50 + 10 * q + 5) ≤ g (50 + 10 * r + 4) ∨ g (50 + 10 * r + 4) + g (50 + 10 * r + 5) ≤ g (50 + 10 * q + 4)
def VN (g : Nat → Int) : Prop := 0 ≤ g 0 ∧ g 0 ≤ 6 ∧ 0 ≤ g 1 ∧ g 1 ≤ 12 ∧ 0 ≤ g 2 ∧ g 2 ≤ 4 ∧ 0 ≤ g 3 ∧ g 3 ≤ 60 ∧ 0 ≤ g 4 ∧ g 4 ≤ 5
def VR (g : Nat → Int) : Prop := VN g ∧ (∀ c, c < 3 → 0 ≤ g (5 + c) ∧ g (5 + c) ≤ 40) ∧ (∀ p : Nat, (p : Int) < g 0 → VP g p) ∧ (∀ j, j < 4 → VS g j) ∧ (∀ q : Nat, (q : Int) < g 1 → VQ g q) ∧ VD g
theorem ld_00 {s : Mem} (h : RO s) : ldA s 0 0 4 = some (1, 6) := ld_c0 h (A := 0) ⟨by decide, by decide⟩
theorem ld_02 {s : Mem} (h : RO s) : ldA s 0 2 5 = some (8, 12) := ld_c2 h (A := 0) ⟨by decide, by decide⟩
theorem ld_04 {s : Mem} (h : RO s) : ldA s 0 4 6 = some (21, 4) := ld_c4 h (A := 0) ⟨by decide, by decide⟩
theorem ld_06 {s : Mem} (h : RO s) : ldA s 0 6 0 = some (26, 3) := ld_c6 h (A := 0) ⟨by decide, by decide⟩
theorem ld_p {s : Mem} (h : RO s) {i : Nat} (hi : i < 6) : ldO s 1 i 6 = some (2 + i) := ld_cp h (A := 0) ⟨by decide, by decide⟩ hi
theorem ld_q {s : Mem} (h : RO s) {i : Nat} (hi : i < 12) : ldO s 8 i 5 = some (9 + i) := ld_cq h (A := 0) ⟨by decide, by decide⟩ hi
theorem ld_s {s : Mem} (h : RO s) {i : Nat} (hi : i < 4) : ldO s 21 i 8 = some (22 + i) := ld_cs h (A := 0) ⟨by decide, by decide⟩ hi
theorem c_pc {s : Mem} (h : CR s 0 (iI s 341)) : iI s 0 1 = iI s 341 0 := h.1.1
theorem c_qc {s : Mem} (h : CR s 0 (iI s 341)) : iI s 0 3 = iI s 341 1 := h.1.2.1
theorem c_sc {s : Mem} (h : CR s 0 (iI s 341)) : iI s 0 5 = iI s 341 2 := h.1.2.2.1
theorem c_tn {s : Mem} (h : CR s 0 (iI s 341)) : iI s 0 8 = iI s 341 3 := h.1.2.2.2.1
theorem c_gp {s : Mem} (h : CR s 0 (iI s 341)) : iI s 0 7 = iI s 341 4 := h.1.2.2.2.2
theorem c_lm {s : Mem} (h : CR s 0 (iI s 341)) {c : Nat} (hc : c < 3) : iI s 26 c = iI s 341 (5 + c) := h.2.1 c hc
theorem c_p {s : Mem} (h : CR s 0 (iI s 341)) {p f : Nat} (hp : (p : Int) < iI s 341 0) (hf : f < 5) : iI s (2 + p) f = iI s 341 (8 + 5 * p + f) := h.2.2.1 p f hp hf
theorem c_s {s : Mem} (h : CR s 0 (iI s 341)) {p f : Nat} (hp : (p : Int) < iI s 341 2) (hf : f < 3) : iI s (22 + p) f = iI s 341 (38 + 3 * p + f) := h.2.2.2.1 p f hp hf
theorem c_Q {s : Mem} (h : CR s 0 (iI s 341)) {q : Nat} (hq : (q : Int) < iI s 341 1) : PR s (9 + q) (iI s 341) q := h.2.2.2.2 q hq
theorem c_q {s : Mem} (h : CR s 0 (iI s 341)) {q f : Nat} (hq : (q : Int) < iI s 341 1) (hf : f < 6) : iI s (9 + q) f = iI s 341 (50 + 10 * q + f) := (c_Q h hq).1 f hf
theorem c_qL {s : Mem} (h : CR s 0 (iI s 341)) {q : Nat} (hq : (q : Int) < iI s 341 1) : gL s (9 + q) 6 = mI (iI s 341 (50 + 10 * q + 4)) (iI s 341 (50 + 10 * q + 5)) := (c_Q h hq).2.1
theorem c_q7 {s : Mem} (h : CR s 0 (iI s 341)) {q : Nat} (hq : (q : Int) < iI s 341 1) : iI s (9 + q) 7 = iI s 341 (50 + 10 * q + 6) := (c_Q h hq).2.2.1
theorem c_q8 {s : Mem} (h : CR s 0 (iI s 341)) {q : Nat} (hq : (q : Int) < iI s 341 1) : iI s (9 + q) 8 = iI s 341 (50 + 10 * q + 7) := (c_Q h hq).2.2.2.1
theorem c_q9 {s : Mem} (h : CR s 0 (iI s 341)) {q : Nat} (hq : (q : Int) < iI s 341 1) : iI s (9 + q) 9 = iI s 341 (50 + 10 * q + 9) := (c_Q h hq).2.2.2.2.1
theorem c_q10 {s : Mem} (h : CR s 0 (iI s 341)) {q : Nat} (hq : (q : Int) < iI s 341 1) : iI s (9 + q) 10 = iI s 341 (50 + 10 * q + 8) := (c_Q h hq).2.2.2.2.2
theorem VRn {g : Nat → Int} (h : VR g) : VN g := h.1
theorem VRc {g : Nat → Int} (h : VR g) {c : Nat} (hc : c < 3) : 0 ≤ g (5 + c) ∧ g (5 + c) ≤ 40 := h.2.1 c hc
theorem VRp {g : Nat → Int} (h : VR g) {p : Nat} (hp : (p : Int) < g 0) : VP g p := h.2.2.1 p hp
theorem VRs {g : Nat → Int} (h : VR g) {j : Nat} (hj : j < 4) : VS g j := h.2.2.2.1 j hj
theorem VRq {g : Nat → Int} (h : VR g) {q : Nat} (hq : (q : Int) < g 1) : VQ g q := h.2.2.2.2.1 q hq
theorem VRd {g : Nat → Int} (h : VR g) : VD g := h.2.2.2.2.2
-- the class's questions to its camp
theorem X1_hasPitch {fl : Nat} {s : Mem} (hc : CR s 0 (iI s 341)) {p : Int} (h1 : -2147483648 ≤ p) (h2 : p < 2147483648) : F_X1_hasPitch fl 0 (oI p) s = some (oB (0 ≤ p ∧ p < iI s 341 0)) := by
  have b0 := iI_lo s 341 0
  have b1 := iI_hi s 341 0
  unfold F_X1_hasPitch
  simp (disch := omega) only [bd_some, nx_eq, xb_r, xb_l, xc_r, xc_l, oI_lit, oI_nI, oI_add, oI_sub, oI_mul, oI_neg, gI_oI, ldA_I, ldA_L, ldO_I, ldO_L, oB_z, oB_o, gd_oB, lgc0n, oI_litN, ← Int.natCast_add, ← Int.natCast_mul, Int.toNat_natCast, if_true, if_false, oI_le, oI_lt, oI_eq, oI_nat, oI_inR, gd_t, c_pc hc]
  repeat' split
  all_goals first
    | (rw [oB_f (by omega)]; rfl)
    | (rw [oB_t (by omega)]; rfl)
theorem X1_circuitOf {fl : Nat} {s : Mem} (hs : RO s) (hc : CR s 0 (iI s 341)) {p : Nat} (hp : (p : Int) < iI s 341 0) (h6 : iI s 341 0 ≤ 6) : F_X1_circuitOf fl 0 (oI p) s = some (oI (iI s 341 (8 + 5 * p + 3))) := by
  unfold F_X1_circuitOf
  simp (disch := omega) only [bd_some, nx_eq, xb_r, xb_l, xc_r, xc_l, oI_lit, oI_nI, oI_add, oI_sub, oI_mul, oI_neg, gI_oI, ldA_I, ldA_L, ldO_I, ldO_L, oB_z, oB_o, gd_oB, lgc0n, oI_litN, ← Int.natCast_add, ← Int.natCast_mul, Int.toNat_natCast, if_true, if_false, oI_le, oI_lt, oI_eq, oI_nat, oI_inR, gd_t, ld_00 hs, ld_02 hs, ld_04 hs, ld_06 hs, ld_p hs, ld_q hs, ld_s hs, c_pc hc, c_qc hc, c_sc hc, c_tn hc, c_gp hc, c_lm hc, c_p hc, c_s hc, c_q hc, c_q7 hc, c_q8 hc, c_q9 hc, c_q10 hc, c_qL hc]
  rw [if_neg (by omega), if_neg (by omega)]
theorem X1_rateOf {fl : Nat} {s : Mem} (hs : RO s) (hc : CR s 0 (iI s 341)) {p : Nat} (hp : (p : Int) < iI s 341 0) (h6 : iI s 341 0 ≤ 6) : F_X1_rateOf fl 0 (oI p) s = some (oI (iI s 341 (8 + 5 * p + 4))) := by
  unfold F_X1_rateOf
  simp (disch := omega) only [bd_some, nx_eq, xb_r, xb_l, xc_r, xc_l, oI_lit, oI_nI, oI_add, oI_sub, oI_mul, oI_neg, gI_oI, ldA_I, ldA_L, ldO_I, ldO_L, oB_z, oB_o, gd_oB, lgc0n, oI_litN, ← Int.natCast_add, ← Int.natCast_mul, Int.toNat_natCast, if_true, if_false, oI_le, oI_lt, oI_eq, oI_nat, oI_inR, gd_t, ld_00 hs, ld_02 hs, ld_04 hs, ld_06 hs, ld_p hs, ld_q hs, ld_s hs, c_pc hc, c_qc hc, c_sc hc, c_tn hc, c_gp hc, c_lm hc, c_p hc, c_s hc, c_q hc, c_q7 hc, c_q8 hc, c_q9 hc, c_q10 hc, c_qL hc, X1_hasPitch hc]
  rw [if_neg (by omega)]
theorem X1_areaOf {fl : Nat} {s : Mem} (hs : RO s) (hc : CR s 0 (iI s 341)) {p : Nat} (hp : (p : Int) < iI s 341 0) (h6 : iI s 341 0 ≤ 6) : F_X1_areaOf fl 0 (oI p) s = some (oI (iI s 341 (8 + 5 * p + 1) * iI s 341 (8 + 5 * p + 2))) := by
  unfold F_X1_areaOf
  simp (disch := omega) only [bd_some, nx_eq, xb_r, xb_l, xc_r, xc_l, oI_lit, oI_nI, oI_add, oI_sub, oI_mul, oI_neg, gI_oI, ldA_I, ldA_L, ldO_I, ldO_L, oB_z, oB_o, gd_oB, lgc0n, oI_litN, ← Int.natCast_add, ← Int.natCast_mul, Int.toNat_natCast, if_true, if_false, oI_le, oI_lt, oI_eq, oI_nat, oI_inR, gd_t, ld_00 hs, ld_02 hs, ld_04 hs, ld_06 hs, ld_p hs, ld_q hs, ld_s hs, c_pc hc, c_qc hc, c_sc hc, c_tn hc, c_gp hc, c_lm hc, c_p hc, c_s hc, c_q hc, c_q7 hc, c_q8 hc, c_q9 hc, c_q10 hc, c_qL hc, X1_hasPitch hc]
  rw [if_neg (by omega)]
theorem X4_t75 {fl : Nat} {s : Mem} (hc : CR s 0 (iI s 341)) {p w : Nat} (hp : (p : Int) < iI s 341 0) (hv : VP (iI s 341) p) : B_X4_takes_75 fl s (2 + p) w = some (oB (iI s w 3 = 0 ∨ 0 ≤ iI s 341 (8 + 5 * p + 3))) := by
  have b6 := iI_lo s w 3
  have b7 := iI_hi s w 3
  unfold VP at hv
  have e3 := c_p hc (f := 3) hp (by decide)
  unfold B_X4_takes_75
  simp (disch := omega) only [bd_some, nx_eq, xb_r, xb_l, xc_r, xc_l, oI_lit, oI_nI, oI_add, oI_sub, oI_mul, oI_neg, gI_oI, ldA_I, ldA_L, ldO_I, ldO_L, oB_z, oB_o, gd_oB, lgc0n, oI_litN, ← Int.natCast_add, ← Int.natCast_mul, Int.toNat_natCast, if_true, if_false, oI_le, oI_lt, oI_eq, oI_nat, oI_inR, gd_t, e3]
  repeat' split
  all_goals first
    | (rw [oB_f (by omega)]; rfl)
    | (rw [oB_t (by omega)]; rfl)
theorem X4_t55 {fl : Nat} {s : Mem} (hc : CR s 0 (iI s 341)) {p w : Nat} (hp : (p : Int) < iI s 341 0) (hv : VP (iI s 341) p) {a b : Prop} [Decidable a] [Decidable b] : B_X4_takes_55 fl s (2 + p) w (oB a) (oB b) = some (oB (iI s w 0 ≤ iI s 341 (8 + 5 * p + 0) ∧ (a ∨ b) ∧ (iI s w 3 = 0 ∨ 0 ≤ iI s 341 (8 + 5 * p + 3)))) := by
  have b0 := iI_lo s w 0
  have b1 := iI_hi s w 0
  have t := X4_t75 (fl := fl) hc (w := w) hp hv
  unfold VP at hv
  have e0 := c_p hc (f := 0) hp (by decide)
  unfold B_X4_takes_55
  rw [t]
  simp (disch := omega) only [bd_some, nx_eq, xb_r, xb_l, xc_r, xc_l, oI_lit, oI_nI, oI_add, oI_sub, oI_mul, oI_neg, gI_oI, ldA_I, ldA_L, ldO_I, ldO_L, oB_z, oB_o, gd_oB, lgc0n, oI_litN, ← Int.natCast_add, ← Int.natCast_mul, Int.toNat_natCast, if_true, if_false, oI_le, oI_lt, oI_eq, oI_nat, oI_inR, gd_t, e0]
  by_cases h : iI s 341 (8 + 5 * p + 0) < iI s w 0
  · rw [if_pos h, oB_f (by omega)]; rfl
  · rw [if_neg h]
    by_cases ha : a
    · rw [if_neg (fun q => q ha)]
      exact sB_cg ⟨fun q => ⟨by omega, Or.inl ha, q⟩, fun q => q.2.2⟩
    · rw [if_pos ha]
      by_cases hb : b
      · rw [if_neg (fun q => q hb)]
        exact sB_cg ⟨fun q => ⟨by omega, Or.inr hb, q⟩, fun q => q.2.2⟩
      · rw [if_pos hb, oB_f (fun q => q.2.1.elim ha hb)]; rfl
theorem oB_0 : (0 : Int32) = oB False := rfl
theorem oB_1 : (1 : Int32) = oB True := rfl
theorem X4_t27 {fl : Nat} {s : Mem} (hc : CR s 0 (iI s 341)) {p w : Nat} (hp : (p : Int) < iI s 341 0) (hv : VP (iI s 341) p) {a : Prop} [Decidable a] : B_X4_takes_27 fl s (2 + p) w (oB a) = some (oB (iI s w 0 ≤ iI s 341 (8 + 5 * p + 0) ∧ (a ∨ (iI s w 2 ≤ iI s 341 (8 + 5 * p + 1) ∧ iI s w 1 ≤ iI s 341 (8 + 5 * p + 2))) ∧ (iI s w 3 = 0 ∨ 0 ≤ iI s 341 (8 + 5 * p + 3)))) := by
  have b2 := iI_lo s w 1
  have b3 := iI_hi s w 1
  have b4 := iI_lo s w 2
  have b5 := iI_hi s w 2
  have t0 := X4_t55 (fl := fl) hc (w := w) hp hv (a := a) (b := False)
  have t1 := X4_t55 (fl := fl) hc (w := w) hp hv (a := a) (b := True)
  unfold VP at hv
  have e1 := c_p hc (f := 1) hp (by decide)
  have e2 := c_p hc (f := 2) hp (by decide)
  unfold B_X4_takes_27 B_X4_takes_54
  rw [oB_0, oB_1, t0, t1]
  simp (disch := omega) only [bd_some, nx_eq, xb_r, xb_l, xc_r, xc_l, oI_lit, oI_nI, oI_add, oI_sub, oI_mul, oI_neg, gI_oI, ldA_I, ldA_L, ldO_I, ldO_L, oB_z, oB_o, gd_oB, lgc0n, oI_litN, ← Int.natCast_add, ← Int.natCast_mul, Int.toNat_natCast, if_true, if_false, oI_le, oI_lt, oI_eq, oI_nat, oI_inR, gd_t, e1, e2]
  by_cases h : iI s 341 (8 + 5 * p + 1) < iI s w 2
  · rw [if_pos h]
    exact sB_cg (and_congr_right fun _ => and_congr_left fun _ => ⟨fun q => q.elim Or.inl False.elim, fun q => q.elim Or.inl (fun z => by omega)⟩)
  · rw [if_neg h]
    by_cases h' : iI s 341 (8 + 5 * p + 2) < iI s w 1
    · rw [if_pos h']
      exact sB_cg (and_congr_right fun _ => and_congr_left fun _ => ⟨fun q => q.elim Or.inl False.elim, fun q => q.elim Or.inl (fun z => by omega)⟩)
    · rw [if_neg h']
      exact sB_cg (and_congr_right fun _ => and_congr_left fun _ => ⟨fun q => Or.inr (by omega), fun q => Or.inr trivial⟩)
theorem X4_takes {fl : Nat} {s : Mem} (hc : CR s 0 (iI s 341)) {p w : Nat} (hp : (p : Int) < iI s 341 0) (hv : VP (iI s 341) p) : F_X4_takes fl (2 + p) w s = some (oB (ftP s (iI s w 0) (iI s w 1) (iI s w 2) (iI s w 3) p)) := by
  have b2 := iI_lo s w 1
  have b3 := iI_hi s w 1
  have b4 := iI_lo s w 2
  have b5 := iI_hi s w 2
  have t0 := X4_t27 (fl := fl) hc (w := w) hp hv (a := False)
  have t1 := X4_t27 (fl := fl) hc (w := w) hp hv (a := True)
  unfold VP at hv
  have e1 := c_p hc (f := 1) hp (by decide)
  have e2 := c_p hc (f := 2) hp (by decide)
  unfold F_X4_takes B_X4_takes_26
  rw [oB_0, oB_1, t0, t1]
  simp (disch := omega) only [bd_some, nx_eq, xb_r, xb_l, xc_r, xc_l, oI_lit, oI_nI, oI_add, oI_sub, oI_mul, oI_neg, gI_oI, ldA_I, ldA_L, ldO_I, ldO_L, oB_z, oB_o, gd_oB, lgc0n, oI_litN, ← Int.natCast_add, ← Int.natCast_mul, Int.toNat_natCast, if_true, if_false, oI_le, oI_lt, oI_eq, oI_nat, oI_inR, gd_t, e1, e2]
  unfold ftP
  by_cases h : iI s 341 (8 + 5 * p + 1) < iI s w 1
  · rw [if_pos h]
    exact sB_cg (and_congr_right fun _ => and_congr_left fun _ => ⟨fun q => q.elim False.elim Or.inr, fun q => q.elim (fun z => by omega) Or.inr⟩)
  · rw [if_neg h]
    by_cases h' : iI s 341 (8 + 5 * p + 2) < iI s w 2
    · rw [if_pos h']
      exact sB_cg (and_congr_right fun _ => and_congr_left fun _ => ⟨fun q => q.elim False.elim Or.inr, fun q => q.elim (fun z => by omega) Or.inr⟩)
    · rw [if_neg h']
      exact sB_cg (and_congr_right fun _ => and_congr_left fun _ => ⟨fun q => Or.inl (by omega), fun q => Or.inl trivial⟩)
theorem X1_hasFit {fl : Nat} {s : Mem} (hs : RO s) (hc : CR s 0 (iI s 341)) (hv : VR (iI s 341)) (w : Nat) {p : Nat} (h6 : p < 6) : F_X1_hasFit fl 0 w (oI p) s = some (oB ((p : Int) < iI s 341 0 ∧ ftP s (iI s w 0) (iI s w 1) (iI s w 2) (iI s w 3) p)) := by
  have b := VRn hv
  unfold VN at b
  unfold F_X1_hasFit
  by_cases hp : (p : Int) < iI s 341 0
  · have t := X4_takes (fl := fl) hc (w := w) hp (VRp hv hp)
    simp (disch := omega) only [bd_some, nx_eq, xb_r, xb_l, xc_r, xc_l, oI_lit, oI_nI, oI_add, oI_sub, oI_mul, oI_neg, gI_oI, ldA_I, ldA_L, ldO_I, ldO_L, oB_z, oB_o, gd_oB, lgc0n, oI_litN, ← Int.natCast_add, ← Int.natCast_mul, Int.toNat_natCast, if_true, if_false, oI_le, oI_lt, oI_eq, oI_nat, oI_inR, gd_t, ld_00 hs, ld_p hs, X1_hasPitch hc, t]
    rw [if_neg (by omega)]
    by_cases hf : ftP s (iI s w 0) (iI s w 1) (iI s w 2) (iI s w 3) p
    · rw [if_neg (fun q => q hf), oB_t ⟨hp, hf⟩]; rfl
    · rw [if_pos hf, oB_f (fun q => hf q.2)]; rfl
  · simp (disch := omega) only [bd_some, nx_eq, xb_r, xb_l, xc_r, xc_l, oI_lit, oI_nI, oI_add, oI_sub, oI_mul, oI_neg, gI_oI, ldA_I, ldA_L, ldO_I, ldO_L, oB_z, oB_o, gd_oB, lgc0n, oI_litN, ← Int.natCast_add, ← Int.natCast_mul, Int.toNat_natCast, if_true, if_false, oI_le, oI_lt, oI_eq, oI_nat, oI_inR, gd_t, X1_hasPitch hc]
    rw [if_pos (by omega), oB_f (fun q => hp q.1)]; rfl
theorem X1_isStill {fl : Nat} {s : Mem} (hc : CR s 0 (iI s 341)) (w : Nat) : F_X1_isStillToCome fl 0 w s = some (oB (iI s w 10 ≠ 0 ∧ iI s 341 3 ≤ iI s w 4)) := by
  have b0 := iI_lo s w 10
  have b1 := iI_hi s w 10
  have b2 := iI_lo s w 4
  have b3 := iI_hi s w 4
  have b4 := iI_lo s 341 3
  have b5 := iI_hi s 341 3
  unfold F_X1_isStillToCome
  simp (disch := omega) only [bd_some, nx_eq, xb_r, xb_l, xc_r, xc_l, oI_lit, oI_nI, oI_add, oI_sub, oI_mul, oI_neg, gI_oI, ldA_I, ldA_L, ldO_I, ldO_L, oB_z, oB_o, gd_oB, lgc0n, oI_litN, ← Int.natCast_add, ← Int.natCast_mul, Int.toNat_natCast, if_true, if_false, oI_le, oI_lt, oI_eq, oI_nat, oI_inR, gd_t, c_tn hc]
  repeat' split
  all_goals first
    | (rw [oB_f (by omega)]; rfl)
    | (rw [oB_t (by omega)]; rfl)
theorem X3_isOn {fl : Nat} {s : Mem} (w : Nat) {p : Int} (h1 : -2147483648 ≤ p) (h2 : p < 2147483648) : F_X3_isOn fl w (oI p) s = some (oB (iI s w 10 ≠ 0 ∧ iI s w 7 = p)) := by
  have b0 := iI_lo s w 10
  have b1 := iI_hi s w 10
  have b2 := iI_lo s w 7
  have b3 := iI_hi s w 7
  unfold F_X3_isOn
  simp (disch := omega) only [bd_some, nx_eq, xb_r, xb_l, xc_r, xc_l, oI_lit, oI_nI, oI_add, oI_sub, oI_mul, oI_neg, gI_oI, ldA_I, ldA_L, ldO_I, ldO_L, oB_z, oB_o, gd_oB, lgc0n, oI_litN, ← Int.natCast_add, ← Int.natCast_mul, Int.toNat_natCast, if_true, if_false, oI_le, oI_lt, oI_eq, oI_nat, oI_inR, gd_t]
  repeat' split
  all_goals first
    | (rw [oB_f (by omega)]; rfl)
    | (rw [oB_t (by omega)]; rfl)
theorem X7_isCircuit {fl : Nat} {s : Mem} {p : Int} (h1 : -2147483648 ≤ p) (h2 : p < 2147483648) : F_X7_isCircuit fl (oI p) s = some (oB (0 ≤ p ∧ p < 3)) := by
  unfold F_X7_isCircuit
  simp (disch := omega) only [bd_some, nx_eq, xb_r, xb_l, xc_r, xc_l, oI_lit, oI_nI, oI_add, oI_sub, oI_mul, oI_neg, gI_oI, ldA_I, ldA_L, ldO_I, ldO_L, oB_z, oB_o, gd_oB, lgc0n, oI_litN, ← Int.natCast_add, ← Int.natCast_mul, Int.toNat_natCast, if_true, if_false, oI_le, oI_lt, oI_eq, oI_nat, oI_inR, gd_t]
  repeat' split
  all_goals first
    | (rw [oB_f (by omega)]; rfl)
    | (rw [oB_t (by omega)]; rfl)
theorem X7_isNight {fl : Nat} {s : Mem} {p : Int} (h1 : -2147483648 ≤ p) (h2 : p < 2147483648) : F_X7_isNight fl (oI p) s = some (oB (0 ≤ p ∧ p < 60)) := by
  unfold F_X7_isNight
  simp (disch := omega) only [bd_some, nx_eq, xb_r, xb_l, xc_r, xc_l, oI_lit, oI_nI, oI_add, oI_sub, oI_mul, oI_neg, gI_oI, ldA_I, ldA_L, ldO_I, ldO_L, oB_z, oB_o, gd_oB, lgc0n, oI_litN, ← Int.natCast_add, ← Int.natCast_mul, Int.toNat_natCast, if_true, if_false, oI_le, oI_lt, oI_eq, oI_nat, oI_inR, gd_t]
  repeat' split
  all_goals first
    | (rw [oB_f (by omega)]; rfl)
    | (rw [oB_t (by omega)]; rfl)
theorem X7_isWithin {fl : Nat} {s : Mem} {v a b : Int} (h1 : -2147483648 ≤ v) (h2 : v < 2147483648) (h3 : -2147483648 ≤ a) (h4 : a < 2147483648) (h5 : -2147483648 ≤ b) (h6 : b < 2147483648) : F_X7_isWithin fl (oI v) (oI a) (oI b) s = some (oB (a ≤ v ∧ v ≤ b)) := by
  unfold F_X7_isWithin
  simp (disch := omega) only [bd_some, nx_eq, xb_r, xb_l, xc_r, xc_l, oI_lit, oI_nI, oI_add, oI_sub, oI_mul, oI_neg, gI_oI, ldA_I, ldA_L, ldO_I, ldO_L, oB_z, oB_o, gd_oB, lgc0n, oI_litN, ← Int.natCast_add, ← Int.natCast_mul, Int.toNat_natCast, if_true, if_false, oI_le, oI_lt, oI_eq, oI_nat, oI_inR, gd_t]
  repeat' split
  all_goals first
    | (rw [oB_f (by omega)]; rfl)
    | (rw [oB_t (by omega)]; rfl)
theorem X7_isStay {fl : Nat} {s : Mem} {f n : Int} (h1 : -2147483648 ≤ f) (h2 : f < 2147483648) (h3 : -2147483648 ≤ n) (h4 : n < 2147483648) : F_X7_isStay fl (oI f) (oI n) s = some (oB (0 ≤ f ∧ f < 60 ∧ 1 ≤ n ∧ n ≤ 14 ∧ f + n ≤ 60)) := by
  unfold F_X7_isStay
  by_cases hf : 0 ≤ f ∧ f < 60
  · simp (disch := omega) only [bd_some, nx_eq, xb_r, xb_l, xc_r, xc_l, oI_lit, oI_nI, oI_add, oI_sub, oI_mul, oI_neg, gI_oI, ldA_I, ldA_L, ldO_I, ldO_L, oB_z, oB_o, gd_oB, lgc0n, oI_litN, ← Int.natCast_add, ← Int.natCast_mul, Int.toNat_natCast, if_true, if_false, oI_le, oI_lt, oI_eq, oI_nat, oI_inR, gd_t, X7_isNight, X7_isWithin]
    repeat' split
    all_goals first
      | (rw [oB_f (by omega)]; rfl)
      | (rw [oB_t (by omega)]; rfl)
  · simp (disch := omega) only [bd_some, nx_eq, xb_r, xb_l, xc_r, xc_l, oI_lit, oI_nI, oI_add, oI_sub, oI_mul, oI_neg, gI_oI, ldA_I, ldA_L, ldO_I, ldO_L, oB_z, oB_o, gd_oB, lgc0n, oI_litN, ← Int.natCast_add, ← Int.natCast_mul, Int.toNat_natCast, if_true, if_false, oI_le, oI_lt, oI_eq, oI_nat, oI_inR, gd_t, X7_isNight]
    rw [if_pos (by omega), oB_f (by omega)]
    rfl
theorem X7_stayOf (fl : Nat) (f n : Int) (s : Mem) : F_X7_stayOf fl (oI f) (oI n) s = some (mI f n) := rfl
theorem X1_stayAskedL {fl : Nat} {s : Mem} (hs : RO s) (hc : CR s 0 (iI s 341)) (hv : VR (iI s 341)) {f n : Int} (hf : 0 ≤ f) (hf2 : f < 60) (hn : 0 ≤ n) (hn2 : n < 60) : ∀ (m i : Nat) (a : Int) (k : Nat), iI s 341 2 = ((i + m : Nat) : Int) → m < k → 0 ≤ a → a < 100000 →
    B_X1_stayAsked_5 fl s k 0 (oI f) (oI n) (oI a) (oI i) = some (oI (itr (askS s f n) m i a)) := by
  have b := VRn hv
  unfold VN at b
  intro m
  induction m with
  | zero =>
    intro i a k h1 hk ha ha2
    obtain ⟨k, rfl⟩ : ∃ k', k = k' + 1 := ⟨k - 1, by omega⟩
    unfold B_X1_stayAsked_5
    simp (disch := omega) only [bd_some, nx_eq, xb_r, xb_l, xc_r, xc_l, oI_lit, oI_nI, oI_add, oI_sub, oI_mul, oI_neg, gI_oI, ldA_I, ldA_L, ldO_I, ldO_L, oB_z, oB_o, gd_oB, lgc0n, oI_litN, ← Int.natCast_add, ← Int.natCast_mul, Int.toNat_natCast, if_true, if_false, oI_le, oI_lt, oI_eq, oI_nat, oI_inR, gd_t, ld_00 hs, ld_02 hs, ld_04 hs, ld_06 hs, ld_p hs, ld_q hs, ld_s hs, c_pc hc, c_qc hc, c_sc hc, c_tn hc, c_gp hc, c_lm hc, c_p hc, c_s hc, c_q hc, c_q7 hc, c_q8 hc, c_q9 hc, c_q10 hc, c_qL hc]
    rw [if_pos (by omega)]
    rfl
  | succ m ih =>
    intro i a k h1 hk ha ha2
    obtain ⟨k, rfl⟩ : ∃ k', k = k' + 1 := ⟨k - 1, by omega⟩
    have d := VRs hv (j := i) (by omega)
    unfold VS at d
    have e9 : iI s 341 (38 + 3 * i + 0) = iI s 341 (38 + 3 * i) := rfl
    unfold B_X1_stayAsked_5 B_X1_stayAsked_47 B_X1_stayAsked_48 B_X1_stayAsked_70
    simp (disch := omega) only [bd_some, nx_eq, xb_r, xb_l, xc_r, xc_l, oI_lit, oI_nI, oI_add, oI_sub, oI_mul, oI_neg, gI_oI, ldA_I, ldA_L, ldO_I, ldO_L, oB_z, oB_o, gd_oB, lgc0n, oI_litN, ← Int.natCast_add, ← Int.natCast_mul, Int.toNat_natCast, if_true, if_false, oI_le, oI_lt, oI_eq, oI_nat, oI_inR, gd_t, ld_00 hs, ld_02 hs, ld_04 hs, ld_06 hs, ld_p hs, ld_q hs, ld_s hs, c_pc hc, c_qc hc, c_sc hc, c_tn hc, c_gp hc, c_lm hc, c_p hc, c_s hc, c_q hc, c_q7 hc, c_q8 hc, c_q9 hc, c_q10 hc, c_qL hc]
    rw [if_neg (by omega)]
    show _ = some (oI (itr (askS s f n) m (i + 1) (askS s f n a i)))
    repeat' split
    all_goals first
      | (rw [show askS s f n a i = a from if_neg (by omega)]; exact ih (i + 1) a k (by omega) (by omega) ha ha2)
      | (rw [show askS s f n a i = _ from if_pos (by omega)]; exact ih (i + 1) _ k (by omega) (by omega) (by omega) (by omega))
      | (exfalso; omega)
theorem X1_stayAsked {fl : Nat} (hfl : 1000 ≤ fl) {s : Mem} (hs : RO s) (hc : CR s 0 (iI s 341)) (hv : VR (iI s 341)) {f n : Int} (hf : 0 ≤ f) (hf2 : f < 60) (hn : 0 ≤ n) (hn2 : n < 60) : F_X1_stayAsked fl 0 (oI f) (oI n) s = some (oI (askd s f n)) := by
  have b := VRn hv
  unfold VN at b
  unfold F_X1_stayAsked
  exact X1_stayAskedL hs hc hv hf hf2 hn hn2 (iI s 341 2).toNat 0 1 fl (by omega) (by omega) (by omega) (by omega)
theorem VR_vS {s : Mem} (hv : VR (iI s 341)) : vS s := by
  have b := VRn hv
  unfold VN at b
  refine ⟨b.2.2.2.2.1, b.2.2.2.2.2.1, fun j hj => ?_⟩
  have d := VRs hv hj
  unfold VS at d
  omega
