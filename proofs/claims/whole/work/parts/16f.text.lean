-- the reference's reading
def r8C (k j : Nat) : Prop := k = 340 ∧ 18 ≤ j
theorem X8_fin {fl : Nat} {m : Mem} (hs : RO m) {q : Int} (h : iI m 340 20 = q) (q0 : 0 ≤ q) (v2 v3 v4 v5 v6 v7 : Int32) : ∃ m3, FG m m3 r8C ∧ iI m3 340 18 = 0 ∧ iI m3 340 21 = q ∧ B_X8_readBooking_164 fl 340 v2 v3 v4 v5 v6 v7 m = some (0, pI m3 340 0 1) := by
  have hi := iI_hi m 340 20
  rw [h] at hi
  obtain ⟨n1, e1, F1, y1⟩ := stI m 340 18 (v := 0) (by omega) (by omega)
  have g1 : gI n1 340 20 = oI q := by rw [gI_oI, FG_I F1 (by omega), h]
  obtain ⟨n2, e2, F2, y2⟩ := stI n1 340 21 (v := q) (by omega) (by omega)
  have g2 : gI n2 340 20 = oI q := by rw [gI_oI, FG_I F2 (by omega), FG_I F1 (by omega), h]
  refine ⟨n2, FG_trans (FG_mono F1 (by unfold r8C; omega)) (FG_mono F2 (by unfold r8C; omega)), by rw [FG_I F2 (by omega)]; exact y1, y2, ?_⟩
  unfold B_X8_readBooking_164 B_X8_readBooking_190
  rw [show gI m 340 20 = oI q from by rw [gI_oI, h], if_pos (by rw [show (0 : Int32) = oI 0 from rfl, oI_le (by omega) (by omega) (by omega) (by omega)]; omega), nx_eq, show pI m 340 18 0 = n1 from e1, nx_eq, g1, e2, g2, if_neg (by rw [show (0 : Int32) = oI 0 from rfl, oI_lt (by omega) (by omega) (by omega) (by omega)]; omega), nx_eq]
-- a number, read or not; after a fault nothing is read
def N8 (u u' : Mem) (T : Nat → Int) (L p : Nat) (v : Int32) : Prop := (dgP T L p ∧ v = oI (nmV T L p) ∧ iI u' 340 19 = nmE T L p ∧ iI u' 340 20 = -1) ∨ (¬ dgP T L p ∧ iI u' 340 20 = p)
theorem X8_num {fl : Nat} {u : Mem} {T : Nat → Int} {L p : Nat} (h : TR u T L) (h2 : iI u 340 19 = p) (hp : p ≤ L) (h20 : iI u 340 20 = -1) : ∃ v u', F_X8_number fl 340 u = some (v, u') ∧ FG u u' (fun k j => k = 340 ∧ 19 ≤ j ∧ j ≤ 20) ∧ N8 u u' T L p v := by
  have l30 := h.2.1
  by_cases hd : dgP T L p
  · obtain ⟨u', a, b, c⟩ := X8_number_y (fl := fl) h h2 h20 hd
    exact ⟨_, u', a, FG_mono b (by omega), Or.inl ⟨hd, rfl, c, by rw [FG_I b (by omega)]; exact h20⟩⟩
  · exact ⟨_, _, X8_number_n (fl := fl) h h2 hp h20 hd, FG_p _ _ _ _ (by omega), Or.inr ⟨hd, iI_pe (by omega) (by omega)⟩⟩
def S8 (u' : Mem) (T : Nat → Int) (L p : Nat) (ch : Int) : Prop := (sgP T L p ch ∧ iI u' 340 19 = (p + 1 : Nat) ∧ iI u' 340 20 = -1) ∨ (¬ sgP T L p ch ∧ iI u' 340 20 = p)
theorem X8_wan {fl : Nat} {u : Mem} {T : Nat → Int} {L p : Nat} (h : TR u T L) (h2 : iI u 340 19 = p) (hp : p ≤ L) (h20 : iI u 340 20 = -1) {ch : Int} (c0 : 0 ≤ ch) (c1 : ch < 65536) : ∃ u', F_X8_wants fl 340 (oI ch) u = some u' ∧ FG u u' (fun k j => k = 340 ∧ 19 ≤ j ∧ j ≤ 20) ∧ S8 u' T L p ch := by
  have l30 := h.2.1
  by_cases hd : sgP T L p ch
  · have F : FG u (pI u 340 19 (oI ((p + 1 : Nat) : Int))) (fun k j => k = 340 ∧ j = 19) := FG_p _ _ _ _ ⟨rfl, rfl⟩
    exact ⟨_, X8_wants_y (fl := fl) h h2 hd.1 h20 hd.2, FG_mono F (by omega), Or.inl ⟨hd, iI_pe (by omega) (by omega), by rw [FG_I F (by omega)]; exact h20⟩⟩
  · exact ⟨_, X8_wants_n (fl := fl) h h2 hp h20 c0 c1 hd, FG_p _ _ _ _ (by omega), Or.inr ⟨hd, iI_pe (by omega) (by omega)⟩⟩
theorem X0_parse {fl : Nat} {s : Mem} {T : Nat → Int} {L : Nat} (h : TC s T L) : ∃ s', F_X0_parse fl 336 s = some (oB (rdF T L = -1), s') ∧ FG s s' (fun k j => k = 336 ∨ k = 338) ∧ iI s' 336 1 = 0 ∧ iI s' 336 3 = rdF T L ∧ (rdF T L = -1 → rdN s' T L) := by
  obtain ⟨m1, e1, F1, y1⟩ := stI s 336 2 (v := ((0 : Nat) : Int)) (by omega) (by omega)
  obtain ⟨b, s1, a1, A1, hb⟩ := X0_readAll (fl := fl) (TC_FG F1 (by omega) h) y1
  unfold F_X0_parse
  rw [nx_eq, show pI s 336 2 0 = m1 from e1, a1, bd_some]
  dsimp only
  rcases hb with ⟨rfl, hF, hN⟩ | ⟨rfl, hF, h2⟩
  · obtain ⟨m2, e2, F2, y2⟩ := stI s1 336 3 (v := -1) (by omega) (by omega)
    obtain ⟨m3, e3, F3, y3⟩ := stI m2 336 1 (v := 0) (by omega) (by omega)
    refine ⟨m3, ?_, FG_trans (FG_mono F1 (by omega)) (FG_trans (FG_mono A1 (by unfold raC; omega)) (FG_trans (FG_mono F2 (by omega)) (FG_mono F3 (by omega)))), y3, by rw [FG_I F3 (by omega), y2, hF], fun _ => ?_⟩
    · rw [if_neg (by decide), nx_eq, show pI s1 336 3 (-1) = m2 from e2, nx_eq, show pI m2 336 1 0 = m3 from e3, gd_t (by decide)]
      exact oBs_t hF _
    · obtain ⟨r1, r2, r3, r4, r5, r6⟩ := hN
      refine ⟨?_, ?_, ?_, ?_, ?_, ?_⟩
      · rw [FG_I F3 (by omega), FG_I F2 (by omega)]; exact r1
      · rw [FG_I F3 (by omega), FG_I F2 (by omega)]; exact r2
      · rw [FG_I F3 (by omega), FG_I F2 (by omega)]; exact r3
      · rw [FG_I F3 (by omega), FG_I F2 (by omega)]; exact r4
      · rw [FG_I F3 (by omega), FG_I F2 (by omega)]; exact r5
      · rw [FG_I F3 (by omega), FG_I F2 (by omega)]; exact r6
  · have lo := iI_hi s1 336 2
    rw [h2] at lo
    obtain ⟨m2, e2, F2, y2⟩ := stI s1 336 3 (v := rdF T L) (by omega) (by omega)
    obtain ⟨m3, e3, F3, y3⟩ := stI m2 336 1 (v := 0) (by omega) (by omega)
    refine ⟨m3, ?_, FG_trans (FG_mono F1 (by omega)) (FG_trans (FG_mono A1 (by unfold raC; omega)) (FG_trans (FG_mono F2 (by omega)) (FG_mono F3 (by omega)))), y3, by rw [FG_I F3 (by omega), y2], fun z => by omega⟩
    rw [if_pos rfl, nx_eq, show gI s1 336 2 = oI (rdF T L) from by rw [gI_oI, h2], e2, nx_eq, show pI m2 336 1 0 = m3 from e3, gd_t (by decide)]
    exact oBs_f (by omega) _
