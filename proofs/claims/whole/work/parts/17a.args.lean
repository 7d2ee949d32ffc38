-- (written by genZ.py) the arguments as they stand in the script
theorem t_lo (x : Int32) : -2147483648 ≤ x.toInt := Int32.le_toInt x
theorem t_hi (x : Int32) : x.toInt < 2147483648 := Int32.toInt_lt x
theorem LI_addPitch {fl : Nat} (hfl : 1000 ≤ fl) {s : Mem} (hI : Inv s) (a b c d : Int32) : Ans (F_L_addPitch fl 320 a b c d 350) (F_X8_addPitch fl 340 a b c d) s := by
  have h := LM_addPitch (fl := fl) hfl hI (t_lo a) (t_hi a) (t_lo b) (t_hi b) (t_lo c) (t_hi c) (t_lo d) (t_hi d)
  rw [oI_self a, oI_self b, oI_self c, oI_self d] at h
  exact h
theorem LI_pitch {fl : Nat} (hfl : 1000 ≤ fl) {s : Mem} (hI : Inv s) (a b : Int32) : Ans (F_L_pitch fl 320 a b 350) (F_X8_pitch fl 340 a b) s := by
  have h := LM_pitch (fl := fl) hfl hI (t_lo a) (t_hi a) (t_lo b) (t_hi b)
  rw [oI_self a, oI_self b] at h
  exact h
theorem LI_setLimit {fl : Nat} (hfl : 1000 ≤ fl) {s : Mem} (hI : Inv s) (a b : Int32) : Ans (F_L_setLimit fl 320 a b 350) (F_X8_setLimit fl 340 a b) s := by
  have h := LM_setLimit (fl := fl) hfl hI (t_lo a) (t_hi a) (t_lo b) (t_hi b)
  rw [oI_self a, oI_self b] at h
  exact h
theorem LI_setRate {fl : Nat} (hfl : 1000 ≤ fl) {s : Mem} (hI : Inv s) (a b : Int32) : Ans (F_L_setRate fl 320 a b 350) (F_X8_setRate fl 340 a b) s := by
  have h := LM_setRate (fl := fl) hfl hI (t_lo a) (t_hi a) (t_lo b) (t_hi b)
  rw [oI_self a, oI_self b] at h
  exact h
theorem LI_setGap {fl : Nat} (hfl : 1000 ≤ fl) {s : Mem} (hI : Inv s) (a : Int32) : Ans (F_L_setGap fl 320 a 350) (F_X8_setGap fl 340 a) s := by
  have h := LM_setGap (fl := fl) hfl hI (t_lo a) (t_hi a)
  rw [oI_self a] at h
  exact h
theorem LI_addSeason {fl : Nat} (hfl : 1000 ≤ fl) {s : Mem} (hI : Inv s) (a b c : Int32) : Ans (F_L_addSeason fl 320 a b c 350) (F_X8_addSeason fl 340 a b c) s := by
  have h := LM_addSeason (fl := fl) hfl hI (t_lo a) (t_hi a) (t_lo b) (t_hi b) (t_lo c) (t_hi c)
  rw [oI_self a, oI_self b, oI_self c] at h
  exact h
theorem LI_dropSeason {fl : Nat} (hfl : 1000 ≤ fl) {s : Mem} (hI : Inv s) (a : Int32) : Ans (F_L_dropSeason fl 320 a 350) (F_X8_dropSeason fl 340 a) s := by
  have h := LM_dropSeason (fl := fl) hfl hI (t_lo a) (t_hi a)
  rw [oI_self a] at h
  exact h
theorem LI_season {fl : Nat} {s : Mem} (hI : Inv s) (a b : Int32) : Ans (F_L_season fl 320 a b 350) (F_X8_season fl 340 a b) s := by
  have h := LM_season (fl := fl) hI (t_lo a) (t_hi a) (t_lo b) (t_hi b)
  rw [oI_self a, oI_self b] at h
  exact h
theorem LI_leastStay {fl : Nat} (hfl : 1000 ≤ fl) {s : Mem} (hI : Inv s) (a b : Int32) : Ans (F_L_leastStay fl 320 a b 350) (F_X8_leastStay fl 340 a b) s := by
  have h := LM_leastStay (fl := fl) hfl hI (t_lo a) (t_hi a) (t_lo b) (t_hi b)
  rw [oI_self a, oI_self b] at h
  exact h
theorem LI_book {fl : Nat} (hfl : 1000 ≤ fl) {s : Mem} (hI : Inv s) (a b c d e g : Int32) : Ans (F_L_book fl 320 a b c d e g 350) (F_X8_book fl 340 a b c d e g) s := by
  have h := LM_book (fl := fl) hfl hI (t_lo a) (t_hi a) (t_lo b) (t_hi b) (t_lo c) (t_hi c) (t_lo d) (t_hi d) (t_lo e) (t_hi e) (t_lo g) (t_hi g)
  rw [oI_self a, oI_self b, oI_self c, oI_self d, oI_self e, oI_self g] at h
  exact h
theorem LI_party {fl : Nat} {s : Mem} (hI : Inv s) (a b : Int32) : Ans (F_L_party fl 320 a b 350) (F_X8_party fl 340 a b) s := by
  have h := LM_party (fl := fl) hI (t_lo a) (t_hi a) (t_lo b) (t_hi b)
  rw [oI_self a, oI_self b] at h
  exact h
theorem LI_moveOf {fl : Nat} {s : Mem} (hI : Inv s) (a b : Int32) : Ans (F_L_moveOf fl 320 a b 350) (F_X8_moveOf fl 340 a b) s := by
  have h := LM_moveOf (fl := fl) hI (t_lo a) (t_hi a) (t_lo b) (t_hi b)
  rw [oI_self a, oI_self b] at h
  exact h
theorem LI_move {fl : Nat} (hfl : 1000 ≤ fl) {s : Mem} (hI : Inv s) (a b : Int32) : Ans (F_L_move fl 320 a b 350) (F_X8_move fl 340 a b) s := by
  have h := LM_move (fl := fl) hfl hI (t_lo a) (t_hi a) (t_lo b) (t_hi b)
  rw [oI_self a, oI_self b] at h
  exact h
theorem LI_cancel {fl : Nat} (hfl : 1000 ≤ fl) {s : Mem} (hI : Inv s) (a : Int32) : Ans (F_L_cancel fl 320 a 350) (F_X8_cancel fl 340 a) s := by
  have h := LM_cancel (fl := fl) hfl hI (t_lo a) (t_hi a)
  rw [oI_self a] at h
  exact h
theorem LI_advance {fl : Nat} (hfl : 1000 ≤ fl) {s : Mem} (hI : Inv s) (a : Int32) : Ans (F_L_advance fl 320 a 350) (F_X8_advance fl 340 a) s := by
  have h := LM_advance (fl := fl) hfl hI (t_lo a) (t_hi a)
  rw [oI_self a] at h
  exact h
theorem LI_obstacle {fl : Nat} (hfl : 1000 ≤ fl) {s : Mem} (hI : Inv s) (a b : Int32) : Ans (F_L_obstacle fl 320 a b 350) (F_X8_obstacle fl 340 a b) s := by
  have h := LM_obstacle (fl := fl) hfl hI (t_lo a) (t_hi a) (t_lo b) (t_hi b)
  rw [oI_self a, oI_self b] at h
  exact h
theorem LI_occupant {fl : Nat} (hfl : 1000 ≤ fl) {s : Mem} (hI : Inv s) (a b : Int32) : Ans (F_L_occupant fl 320 a b 350) (F_X8_occupant fl 340 a b) s := by
  have h := LM_occupant (fl := fl) hfl hI (t_lo a) (t_hi a) (t_lo b) (t_hi b)
  rw [oI_self a, oI_self b] at h
  exact h
theorem LI_busyNight {fl : Nat} (hfl : 1000 ≤ fl) {s : Mem} (hI : Inv s) (a b : Int32) : Ans (F_L_busyNight fl 320 a b 350) (F_X8_busyNight fl 340 a b) s := by
  have h := LM_busyNight (fl := fl) hfl hI (t_lo a) (t_hi a) (t_lo b) (t_hi b)
  rw [oI_self a, oI_self b] at h
  exact h
theorem LI_firstFree {fl : Nat} (hfl : 1000 ≤ fl) {s : Mem} (hI : Inv s) (a b c : Int32) : Ans (F_L_firstFree fl 320 a b c 350) (F_X8_firstFree fl 340 a b c) s := by
  have h := LM_firstFree (fl := fl) hfl hI (t_lo a) (t_hi a) (t_lo b) (t_hi b) (t_lo c) (t_hi c)
  rw [oI_self a, oI_self b, oI_self c] at h
  exact h
theorem LI_power {fl : Nat} (hfl : 1000 ≤ fl) {s : Mem} (hI : Inv s) (a b : Int32) : Ans (F_L_power fl 320 a b 350) (F_X8_power fl 340 a b) s := by
  have h := LM_power (fl := fl) hfl hI (t_lo a) (t_hi a) (t_lo b) (t_hi b)
  rw [oI_self a, oI_self b] at h
  exact h
theorem LI_peak {fl : Nat} (hfl : 1000 ≤ fl) {s : Mem} (hI : Inv s) (a : Int32) : Ans (F_L_peak fl 320 a 350) (F_X8_peak fl 340 a) s := by
  have h := LM_peak (fl := fl) hfl hI (t_lo a) (t_hi a)
  rw [oI_self a] at h
  exact h
theorem LI_gap {fl : Nat} (hfl : 1000 ≤ fl) {s : Mem} (hI : Inv s) (a b : Int32) (z : Int32) : Ans (F_L_gap fl 320 a b z 350) (F_X8_gap fl 340 a b z) s := by
  have h := LM_gap (fl := fl) hfl hI (z := z) (t_lo a) (t_hi a) (t_lo b) (t_hi b)
  rw [oI_self a, oI_self b] at h
  exact h
theorem LI_account {fl : Nat} (hfl : 1000 ≤ fl) {s : Mem} (hI : Inv s) (a : Int32) : Ans (F_L_account fl 320 a 350) (F_X8_account fl 340 a) s := by
  have h := LM_account (fl := fl) hfl hI (t_lo a) (t_hi a)
  rw [oI_self a] at h
  exact h
