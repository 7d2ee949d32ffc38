-- what is read of a text: the fault's place (-1: none), the kind and the numbers
abbrev sgP (T : Nat → Int) (L p : Nat) (ch : Int) : Prop := p < L ∧ T p = ch
def rdK (T : Nat → Int) (L : Nat) : Int := if sgP T L 0 116 then 0 else if sgP T L 0 99 then 1 else if sgP T L 0 109 then 2 else -1
def rq1 (T : Nat → Int) (L : Nat) : Nat := nmE T L 1
def rq2 (T : Nat → Int) (L : Nat) : Nat := nmE T L (rq1 T L + 1)
def rq3 (T : Nat → Int) (L : Nat) : Nat := nmE T L (rq2 T L + 1)
def rq4 (T : Nat → Int) (L : Nat) : Nat := nmE T L (rq3 T L + 1)
def rq5 (T : Nat → Int) (L : Nat) : Nat := nmE T L (rq4 T L + 1)
def rdF (T : Nat → Int) (L : Nat) : Int :=
  if rdK T L < 0 then 0 else if ¬ dgP T L 1 then 1 else if ¬ sgP T L (rq1 T L) 120 then rq1 T L else if ¬ dgP T L (rq1 T L + 1) then (rq1 T L + 1 : Nat) else if ¬ sgP T L (rq2 T L) 64 then rq2 T L else if ¬ dgP T L (rq2 T L + 1) then (rq2 T L + 1 : Nat) else if ¬ sgP T L (rq3 T L) 43 then rq3 T L else if ¬ dgP T L (rq3 T L + 1) then (rq3 T L + 1 : Nat) else if rq4 T L = L then -1 else if ¬ sgP T L (rq4 T L) 112 then rq4 T L else if ¬ dgP T L (rq4 T L + 1) then (rq4 T L + 1 : Nat) else if rq5 T L = L then -1 else rq5 T L
def rdV (T : Nat → Int) (L : Nat) : Int := if rq4 T L = L then 0 else nmV T L (rq4 T L + 1)
theorem nmE_le {T : Nat → Int} {L p : Nat} (h : dgP T L p) : nmE T L p ≤ L ∧ p < nmE T L p := by
  have := h.1
  unfold nmE
  split
  · omega
  · rename_i hn
    have h2 : dgP T L (p + 1) := Classical.byContradiction fun z => hn (Or.inr z)
    have := h2.1
    omega
theorem nmV_bd {T : Nat → Int} {L p : Nat} (h : dgP T L p) : 0 ≤ nmV T L p ∧ nmV T L p ≤ 99 := by
  have := h.2
  unfold nmV
  split
  · omega
  · rename_i hn
    have h2 : dgP T L (p + 1) := Classical.byContradiction fun z => hn (Or.inr z)
    have := h2.2
    omega
-- the class's kind
theorem X0_kind {fl : Nat} {s : Mem} {T : Nat → Int} {L : Nat} (h : TC s T L) (h2 : iI s 336 2 = (0 : Nat)) : ∃ s', F_X0_readKind fl 336 s = some (oB (0 ≤ rdK T L), s') ∧ FG s s' (fun k j => k = 336 ∧ (j = 2 ∨ j = 4)) ∧ iI s' 336 2 = (if 0 ≤ rdK T L then 1 else 0) ∧ (0 ≤ rdK T L → iI s' 336 4 = rdK T L) := by
  have l30 := h.2.1
  obtain ⟨m1, e1, F1, y1⟩ := stI s 336 4 (v := 0) (by omega) (by omega)
  have hm1 : TC m1 T L := TC_FG F1 (by omega) h
  have p1 : iI m1 336 2 = (0 : Nat) := by rw [FG_I F1 (by omega)]; exact h2
  unfold F_X0_readKind
  rw [nx_eq, show pI s 336 4 0 = m1 from e1]
  by_cases k1 : sgP T L 0 116
  · obtain ⟨s', a1, a2, a3⟩ := X0_sign_y (fl := fl) hm1 p1 k1.1 (ch := 116) (by omega) (by omega) k1.2
    have hk : rdK T L = 0 := if_pos k1
    refine ⟨s', ?_, FG_trans (FG_mono F1 (by omega)) (FG_mono a2 (by omega)), by rw [a3, hk]; rfl, fun _ => by rw [FG_I a2 (by omega), y1, hk]⟩
    rw [show F_X0_readSign fl 336 116 m1 = _ from a1, bd_some, hk]
    rfl
  · rw [show F_X0_readSign fl 336 116 m1 = _ from X0_sign_n (fl := fl) hm1 p1 (Nat.zero_le _) (ch := 116) (by omega) (by omega) k1, bd_some]
    dsimp only
    obtain ⟨m2, e2, F2, y2⟩ := stI m1 336 4 (v := 1) (by omega) (by omega)
    have hm2 : TC m2 T L := TC_FG F2 (by omega) hm1
    have p2 : iI m2 336 2 = (0 : Nat) := by rw [FG_I F2 (by omega)]; exact p1
    rw [if_pos rfl, nx_eq, show pI m1 336 4 1 = m2 from e2]
    by_cases k2 : sgP T L 0 99
    · obtain ⟨s', a1, a2, a3⟩ := X0_sign_y (fl := fl) hm2 p2 k2.1 (ch := 99) (by omega) (by omega) k2.2
      have hk : rdK T L = 1 := (if_neg k1).trans (if_pos k2)
      refine ⟨s', ?_, FG_trans (FG_mono F1 (by omega)) (FG_trans (FG_mono F2 (by omega)) (FG_mono a2 (by omega))), by rw [a3, hk]; rfl, fun _ => by rw [FG_I a2 (by omega), y2, hk]⟩
      rw [show F_X0_readSign fl 336 99 m2 = _ from a1, bd_some, hk]
      rfl
    · rw [show F_X0_readSign fl 336 99 m2 = _ from X0_sign_n (fl := fl) hm2 p2 (Nat.zero_le _) (ch := 99) (by omega) (by omega) k2, bd_some]
      dsimp only
      obtain ⟨m3, e3, F3, y3⟩ := stI m2 336 4 (v := 2) (by omega) (by omega)
      have hm3 : TC m3 T L := TC_FG F3 (by omega) hm2
      have p3 : iI m3 336 2 = (0 : Nat) := by rw [FG_I F3 (by omega)]; exact p2
      rw [if_pos rfl, nx_eq, show pI m2 336 4 2 = m3 from e3]
      by_cases k3 : sgP T L 0 109
      · obtain ⟨s', a1, a2, a3⟩ := X0_sign_y (fl := fl) hm3 p3 k3.1 (ch := 109) (by omega) (by omega) k3.2
        have hk : rdK T L = 2 := (if_neg k1).trans ((if_neg k2).trans (if_pos k3))
        refine ⟨s', ?_, FG_trans (FG_mono F1 (by omega)) (FG_trans (FG_mono F2 (by omega)) (FG_trans (FG_mono F3 (by omega)) (FG_mono a2 (by omega)))), by rw [a3, hk]; rfl, fun _ => by rw [FG_I a2 (by omega), y3, hk]⟩
        rw [show F_X0_readSign fl 336 109 m3 = _ from a1, bd_some, hk]
        rfl
      · have hk : rdK T L = -1 := (if_neg k1).trans ((if_neg k2).trans (if_neg k3))
        refine ⟨m3, ?_, FG_trans (FG_mono F1 (by omega)) (FG_trans (FG_mono F2 (by omega)) (FG_mono F3 (by omega))), by rw [p3, hk]; rfl, fun z => by rw [hk] at z; omega⟩
        rw [show F_X0_readSign fl 336 109 m3 = _ from X0_sign_n (fl := fl) hm3 p3 (Nat.zero_le _) (ch := 109) (by omega) (by omega) k3, bd_some, hk]
        rfl
