-- (written by genL.py)
theorem aL350 : aLen 350 1 = some 1 := rfl
theorem aL351 : aLen 351 3 = some 1 := rfl
theorem L_addPitch_1 {fl : Nat} {s s1 : Mem} {v1 v2 v3 v4 : Int32} (h : F_X7_addPitch fl 320 v1 v2 v3 v4 s = some (.inl 1, s1)) : F_L_addPitch fl 320 v1 v2 v3 v4 350 s = some (oI (1 : Nat), s1) := by
  unfold F_L_addPitch
  rw [h]
  rfl
theorem L_addPitch_2 {fl : Nat} {s s1 : Mem} {v1 v2 v3 v4 : Int32} (h : F_X7_addPitch fl 320 v1 v2 v3 v4 s = some (.inl 2, s1)) : F_L_addPitch fl 320 v1 v2 v3 v4 350 s = some (oI (2 : Nat), s1) := by
  unfold F_L_addPitch
  rw [h]
  rfl
theorem L_addPitch_v {fl : Nat} {s s1 : Mem} {v1 v2 v3 v4 : Int32} {x : Int32} (h : F_X7_addPitch fl 320 v1 v2 v3 v4 s = some (.inr x, s1)) : F_L_addPitch fl 320 v1 v2 v3 v4 350 s = some (oI (0 : Nat), pL s1 350 0 (Int32.toInt64 x)) := by
  unfold F_L_addPitch
  rw [h]
  rfl
theorem L_pitch_1 {fl : Nat} {s s1 : Mem} {v1 v2 : Int32} (h : F_X7_pitch fl 320 v1 v2 s = some (.inl 3, s1)) : F_L_pitch fl 320 v1 v2 350 s = some (oI (1 : Nat), s1) := by
  unfold F_L_pitch
  rw [h]
  rfl
theorem L_pitch_2 {fl : Nat} {s s1 : Mem} {v1 v2 : Int32} (h : F_X7_pitch fl 320 v1 v2 s = some (.inl 1, s1)) : F_L_pitch fl 320 v1 v2 350 s = some (oI (2 : Nat), s1) := by
  unfold F_L_pitch
  rw [h]
  rfl
theorem L_pitch_v {fl : Nat} {s s1 : Mem} {v1 v2 : Int32} {x : Int32} (h : F_X7_pitch fl 320 v1 v2 s = some (.inr x, s1)) : F_L_pitch fl 320 v1 v2 350 s = some (oI (0 : Nat), pL s1 350 0 (Int32.toInt64 x)) := by
  unfold F_L_pitch
  rw [h]
  rfl
theorem L_setLimit_1 {fl : Nat} {s s1 : Mem} {v1 v2 : Int32} (h : F_X7_setLimit fl 320 v1 v2 s = some (.inl 3, s1)) : F_L_setLimit fl 320 v1 v2 350 s = some (oI (1 : Nat), s1) := by
  unfold F_L_setLimit
  rw [h]
  rfl
theorem L_setLimit_2 {fl : Nat} {s s1 : Mem} {v1 v2 : Int32} (h : F_X7_setLimit fl 320 v1 v2 s = some (.inl 1, s1)) : F_L_setLimit fl 320 v1 v2 350 s = some (oI (2 : Nat), s1) := by
  unfold F_L_setLimit
  rw [h]
  rfl
theorem L_setLimit_v {fl : Nat} {s s1 : Mem} {v1 v2 : Int32} {x : Int32} (h : F_X7_setLimit fl 320 v1 v2 s = some (.inr x, s1)) : F_L_setLimit fl 320 v1 v2 350 s = some (oI (0 : Nat), pL s1 350 0 (Int32.toInt64 x)) := by
  unfold F_L_setLimit
  rw [h]
  rfl
theorem L_setRate_1 {fl : Nat} {s s1 : Mem} {v1 v2 : Int32} (h : F_X7_setRate fl 320 v1 v2 s = some (.inl 3, s1)) : F_L_setRate fl 320 v1 v2 350 s = some (oI (1 : Nat), s1) := by
  unfold F_L_setRate
  rw [h]
  rfl
theorem L_setRate_2 {fl : Nat} {s s1 : Mem} {v1 v2 : Int32} (h : F_X7_setRate fl 320 v1 v2 s = some (.inl 1, s1)) : F_L_setRate fl 320 v1 v2 350 s = some (oI (2 : Nat), s1) := by
  unfold F_L_setRate
  rw [h]
  rfl
theorem L_setRate_v {fl : Nat} {s s1 : Mem} {v1 v2 : Int32} {x : Int32} (h : F_X7_setRate fl 320 v1 v2 s = some (.inr x, s1)) : F_L_setRate fl 320 v1 v2 350 s = some (oI (0 : Nat), pL s1 350 0 (Int32.toInt64 x)) := by
  unfold F_L_setRate
  rw [h]
  rfl
theorem L_setGap_1 {fl : Nat} {s s1 : Mem} {v1 : Int32} (h : F_X7_setGap fl 320 v1 s = some (.inl 1, s1)) : F_L_setGap fl 320 v1 350 s = some (oI (1 : Nat), s1) := by
  unfold F_L_setGap
  rw [h]
  rfl
theorem L_setGap_v {fl : Nat} {s s1 : Mem} {v1 : Int32} {x : Int32} (h : F_X7_setGap fl 320 v1 s = some (.inr x, s1)) : F_L_setGap fl 320 v1 350 s = some (oI (0 : Nat), pL s1 350 0 (Int32.toInt64 x)) := by
  unfold F_L_setGap
  rw [h]
  rfl
theorem L_addSeason_1 {fl : Nat} {s s1 : Mem} {v1 v2 v3 : Int32} (h : F_X7_addSeason fl 320 v1 v2 v3 s = some (.inl 1, s1)) : F_L_addSeason fl 320 v1 v2 v3 350 s = some (oI (1 : Nat), s1) := by
  unfold F_L_addSeason
  rw [h]
  rfl
theorem L_addSeason_2 {fl : Nat} {s s1 : Mem} {v1 v2 v3 : Int32} (h : F_X7_addSeason fl 320 v1 v2 v3 s = some (.inl 2, s1)) : F_L_addSeason fl 320 v1 v2 v3 350 s = some (oI (2 : Nat), s1) := by
  unfold F_L_addSeason
  rw [h]
  rfl
theorem L_addSeason_v {fl : Nat} {s s1 : Mem} {v1 v2 v3 : Int32} {x : Int32} (h : F_X7_addSeason fl 320 v1 v2 v3 s = some (.inr x, s1)) : F_L_addSeason fl 320 v1 v2 v3 350 s = some (oI (0 : Nat), pL s1 350 0 (Int32.toInt64 x)) := by
  unfold F_L_addSeason
  rw [h]
  rfl
theorem L_dropSeason_1 {fl : Nat} {s s1 : Mem} {v1 : Int32} (h : F_X7_dropSeason fl 320 v1 s = some (.inl 3, s1)) : F_L_dropSeason fl 320 v1 350 s = some (oI (1 : Nat), s1) := by
  unfold F_L_dropSeason
  rw [h]
  rfl
theorem L_dropSeason_v {fl : Nat} {s s1 : Mem} {v1 : Int32} {x : Int32} (h : F_X7_dropSeason fl 320 v1 s = some (.inr x, s1)) : F_L_dropSeason fl 320 v1 350 s = some (oI (0 : Nat), pL s1 350 0 (Int32.toInt64 x)) := by
  unfold F_L_dropSeason
  rw [h]
  rfl
theorem L_season_1 {fl : Nat} {s s1 : Mem} {v1 v2 : Int32} (h : F_X7_season fl 320 v1 v2 s = some (.inl 3, s1)) : F_L_season fl 320 v1 v2 350 s = some (oI (1 : Nat), s1) := by
  unfold F_L_season
  rw [h]
  rfl
theorem L_season_2 {fl : Nat} {s s1 : Mem} {v1 v2 : Int32} (h : F_X7_season fl 320 v1 v2 s = some (.inl 1, s1)) : F_L_season fl 320 v1 v2 350 s = some (oI (2 : Nat), s1) := by
  unfold F_L_season
  rw [h]
  rfl
theorem L_season_v {fl : Nat} {s s1 : Mem} {v1 v2 : Int32} {x : Int32} (h : F_X7_season fl 320 v1 v2 s = some (.inr x, s1)) : F_L_season fl 320 v1 v2 350 s = some (oI (0 : Nat), pL s1 350 0 (Int32.toInt64 x)) := by
  unfold F_L_season
  rw [h]
  rfl
theorem L_leastStay_1 {fl : Nat} {s s1 : Mem} {v1 v2 : Int32} (h : F_X7_leastStay fl 320 v1 v2 s = some (.inl 1, s1)) : F_L_leastStay fl 320 v1 v2 350 s = some (oI (1 : Nat), s1) := by
  unfold F_L_leastStay
  rw [h]
  rfl
theorem L_leastStay_v {fl : Nat} {s s1 : Mem} {v1 v2 : Int32} {x : Int32} (h : F_X7_leastStay fl 320 v1 v2 s = some (.inr x, s1)) : F_L_leastStay fl 320 v1 v2 350 s = some (oI (0 : Nat), pL s1 350 0 (Int32.toInt64 x)) := by
  unfold F_L_leastStay
  rw [h]
  rfl
theorem L_book_1 {fl : Nat} {s s1 : Mem} {v1 v2 v3 v4 v5 v6 : Int32} (h : F_X7_book fl 320 v1 v2 v3 v4 v5 v6 s = some (.inl 1, s1)) : F_L_book fl 320 v1 v2 v3 v4 v5 v6 350 s = some (oI (1 : Nat), s1) := by
  unfold F_L_book
  rw [h]
  rfl
theorem L_book_2 {fl : Nat} {s s1 : Mem} {v1 v2 v3 v4 v5 v6 : Int32} (h : F_X7_book fl 320 v1 v2 v3 v4 v5 v6 s = some (.inl 2, s1)) : F_L_book fl 320 v1 v2 v3 v4 v5 v6 350 s = some (oI (2 : Nat), s1) := by
  unfold F_L_book
  rw [h]
  rfl
theorem L_book_3 {fl : Nat} {s s1 : Mem} {v1 v2 v3 v4 v5 v6 : Int32} (h : F_X7_book fl 320 v1 v2 v3 v4 v5 v6 s = some (.inl 5, s1)) : F_L_book fl 320 v1 v2 v3 v4 v5 v6 350 s = some (oI (3 : Nat), s1) := by
  unfold F_L_book
  rw [h]
  rfl
theorem L_book_v {fl : Nat} {s s1 : Mem} {v1 v2 v3 v4 v5 v6 : Int32} {x : Int32} (h : F_X7_book fl 320 v1 v2 v3 v4 v5 v6 s = some (.inr x, s1)) : F_L_book fl 320 v1 v2 v3 v4 v5 v6 350 s = some (oI (0 : Nat), pL s1 350 0 (Int32.toInt64 x)) := by
  unfold F_L_book
  rw [h]
  rfl
theorem L_append_1 {fl : Nat} {s s1 : Mem} {v1 : Int32} (h : F_X7_append fl 320 v1 s = some (.inl 2, s1)) : F_L_append fl 320 v1 s = some (oI (1 : Nat), s1) := by
  unfold F_L_append
  rw [h]
  rfl
theorem L_append_v {fl : Nat} {s s1 : Mem} {v1 : Int32} (h : F_X7_append fl 320 v1 s = some (.inr (), s1)) : F_L_append fl 320 v1 s = some (oI (0 : Nat), s1) := by
  unfold F_L_append
  rw [h]
  rfl
theorem L_readBooking_1 {fl : Nat} {s s1 : Mem} (h : F_X7_readBooking fl 320 s = some (.inl 1, s1)) : F_L_readBooking fl 320 350 s = some (oI (1 : Nat), s1) := by
  unfold F_L_readBooking
  rw [h]
  rfl
theorem L_readBooking_2 {fl : Nat} {s s1 : Mem} (h : F_X7_readBooking fl 320 s = some (.inl 2, s1)) : F_L_readBooking fl 320 350 s = some (oI (2 : Nat), s1) := by
  unfold F_L_readBooking
  rw [h]
  rfl
theorem L_readBooking_3 {fl : Nat} {s s1 : Mem} (h : F_X7_readBooking fl 320 s = some (.inl 5, s1)) : F_L_readBooking fl 320 350 s = some (oI (3 : Nat), s1) := by
  unfold F_L_readBooking
  rw [h]
  rfl
theorem L_readBooking_v {fl : Nat} {s s1 : Mem} {x : Int32} (h : F_X7_readBooking fl 320 s = some (.inr x, s1)) : F_L_readBooking fl 320 350 s = some (oI (0 : Nat), pL s1 350 0 (Int32.toInt64 x)) := by
  unfold F_L_readBooking
  rw [h]
  rfl
theorem L_refusal_1 {fl : Nat} {s s1 : Mem} (h : F_X7_refusal fl 320 s = some (.inl 6, s1)) : F_L_refusal fl 320 350 s = some (oI (1 : Nat), s1) := by
  unfold F_L_refusal
  rw [h]
  rfl
theorem L_refusal_v {fl : Nat} {s s1 : Mem} {x : Int32} (h : F_X7_refusal fl 320 s = some (.inr x, s1)) : F_L_refusal fl 320 350 s = some (oI (0 : Nat), pL s1 350 0 (Int32.toInt64 x)) := by
  unfold F_L_refusal
  rw [h]
  rfl
theorem L_party_1 {fl : Nat} {s s1 : Mem} {v1 v2 : Int32} (h : F_X7_party fl 320 v1 v2 s = some (.inl 3, s1)) : F_L_party fl 320 v1 v2 350 s = some (oI (1 : Nat), s1) := by
  unfold F_L_party
  rw [h]
  rfl
theorem L_party_2 {fl : Nat} {s s1 : Mem} {v1 v2 : Int32} (h : F_X7_party fl 320 v1 v2 s = some (.inl 1, s1)) : F_L_party fl 320 v1 v2 350 s = some (oI (2 : Nat), s1) := by
  unfold F_L_party
  rw [h]
  rfl
theorem L_party_v {fl : Nat} {s s1 : Mem} {v1 v2 : Int32} {x : Int32} (h : F_X7_party fl 320 v1 v2 s = some (.inr x, s1)) : F_L_party fl 320 v1 v2 350 s = some (oI (0 : Nat), pL s1 350 0 (Int32.toInt64 x)) := by
  unfold F_L_party
  rw [h]
  rfl
theorem L_moveOf_1 {fl : Nat} {s s1 : Mem} {v1 v2 : Int32} (h : F_X7_moveOf fl 320 v1 v2 s = some (.inl 6, s1)) : F_L_moveOf fl 320 v1 v2 350 s = some (oI (1 : Nat), s1) := by
  unfold F_L_moveOf
  rw [h]
  rfl
theorem L_moveOf_2 {fl : Nat} {s s1 : Mem} {v1 v2 : Int32} (h : F_X7_moveOf fl 320 v1 v2 s = some (.inl 1, s1)) : F_L_moveOf fl 320 v1 v2 350 s = some (oI (2 : Nat), s1) := by
  unfold F_L_moveOf
  rw [h]
  rfl
theorem L_moveOf_v {fl : Nat} {s s1 : Mem} {v1 v2 : Int32} {x : Int32} (h : F_X7_moveOf fl 320 v1 v2 s = some (.inr x, s1)) : F_L_moveOf fl 320 v1 v2 350 s = some (oI (0 : Nat), pL s1 350 0 (Int32.toInt64 x)) := by
  unfold F_L_moveOf
  rw [h]
  rfl
theorem L_move_1 {fl : Nat} {s s1 : Mem} {v1 v2 : Int32} (h : F_X7_move fl 320 v1 v2 s = some (.inl 3, s1)) : F_L_move fl 320 v1 v2 350 s = some (oI (1 : Nat), s1) := by
  unfold F_L_move
  rw [h]
  rfl
theorem L_move_2 {fl : Nat} {s s1 : Mem} {v1 v2 : Int32} (h : F_X7_move fl 320 v1 v2 s = some (.inl 2, s1)) : F_L_move fl 320 v1 v2 350 s = some (oI (2 : Nat), s1) := by
  unfold F_L_move
  rw [h]
  rfl
theorem L_move_3 {fl : Nat} {s s1 : Mem} {v1 v2 : Int32} (h : F_X7_move fl 320 v1 v2 s = some (.inl 5, s1)) : F_L_move fl 320 v1 v2 350 s = some (oI (3 : Nat), s1) := by
  unfold F_L_move
  rw [h]
  rfl
theorem L_move_v {fl : Nat} {s s1 : Mem} {v1 v2 : Int32} {x : Int32} (h : F_X7_move fl 320 v1 v2 s = some (.inr x, s1)) : F_L_move fl 320 v1 v2 350 s = some (oI (0 : Nat), pL s1 350 0 (Int32.toInt64 x)) := by
  unfold F_L_move
  rw [h]
  rfl
theorem L_cancel_1 {fl : Nat} {s s1 : Mem} {v1 : Int32} (h : F_X7_cancel fl 320 v1 s = some (.inl 3, s1)) : F_L_cancel fl 320 v1 350 s = some (oI (1 : Nat), s1) := by
  unfold F_L_cancel
  rw [h]
  rfl
theorem L_cancel_2 {fl : Nat} {s s1 : Mem} {v1 : Int32} (h : F_X7_cancel fl 320 v1 s = some (.inl 2, s1)) : F_L_cancel fl 320 v1 350 s = some (oI (2 : Nat), s1) := by
  unfold F_L_cancel
  rw [h]
  rfl
theorem L_cancel_v {fl : Nat} {s s1 : Mem} {v1 : Int32} {x : Int32} (h : F_X7_cancel fl 320 v1 s = some (.inr x, s1)) : F_L_cancel fl 320 v1 350 s = some (oI (0 : Nat), pL s1 350 0 (Int32.toInt64 x)) := by
  unfold F_L_cancel
  rw [h]
  rfl
theorem L_advance_1 {fl : Nat} {s s1 : Mem} {v1 : Int32} (h : F_X7_advance fl 320 v1 s = some (.inl 1, s1)) : F_L_advance fl 320 v1 350 s = some (oI (1 : Nat), s1) := by
  unfold F_L_advance
  rw [h]
  rfl
theorem L_advance_v {fl : Nat} {s s1 : Mem} {v1 : Int32} {x : Int32} (h : F_X7_advance fl 320 v1 s = some (.inr x, s1)) : F_L_advance fl 320 v1 350 s = some (oI (0 : Nat), pL s1 350 0 (Int32.toInt64 x)) := by
  unfold F_L_advance
  rw [h]
  rfl
theorem L_obstacle_1 {fl : Nat} {s s1 : Mem} {v1 v2 : Int32} (h : F_X7_obstacle fl 320 v1 v2 s = some (.inl 3, s1)) : F_L_obstacle fl 320 v1 v2 350 s = some (oI (1 : Nat), s1) := by
  unfold F_L_obstacle
  rw [h]
  rfl
theorem L_obstacle_v {fl : Nat} {s s1 : Mem} {v1 v2 : Int32} {x : Int32} (h : F_X7_obstacle fl 320 v1 v2 s = some (.inr x, s1)) : F_L_obstacle fl 320 v1 v2 350 s = some (oI (0 : Nat), pL s1 350 0 (Int32.toInt64 x)) := by
  unfold F_L_obstacle
  rw [h]
  rfl
theorem L_occupant_1 {fl : Nat} {s s1 : Mem} {v1 v2 : Int32} (h : F_X7_occupant fl 320 v1 v2 s = some (.inl 3, s1)) : F_L_occupant fl 320 v1 v2 350 s = some (oI (1 : Nat), s1) := by
  unfold F_L_occupant
  rw [h]
  rfl
theorem L_occupant_v {fl : Nat} {s s1 : Mem} {v1 v2 : Int32} {x : Int32} (h : F_X7_occupant fl 320 v1 v2 s = some (.inr x, s1)) : F_L_occupant fl 320 v1 v2 350 s = some (oI (0 : Nat), pL s1 350 0 (Int32.toInt64 x)) := by
  unfold F_L_occupant
  rw [h]
  rfl
theorem L_busyNight_1 {fl : Nat} {s s1 : Mem} {v1 v2 : Int32} (h : F_X7_busyNight fl 320 v1 v2 s = some (.inl 3, s1)) : F_L_busyNight fl 320 v1 v2 350 s = some (oI (1 : Nat), s1) := by
  unfold F_L_busyNight
  rw [h]
  rfl
theorem L_busyNight_2 {fl : Nat} {s s1 : Mem} {v1 v2 : Int32} (h : F_X7_busyNight fl 320 v1 v2 s = some (.inl 6, s1)) : F_L_busyNight fl 320 v1 v2 350 s = some (oI (2 : Nat), s1) := by
  unfold F_L_busyNight
  rw [h]
  rfl
theorem L_busyNight_v {fl : Nat} {s s1 : Mem} {v1 v2 : Int32} {x : Int32} (h : F_X7_busyNight fl 320 v1 v2 s = some (.inr x, s1)) : F_L_busyNight fl 320 v1 v2 350 s = some (oI (0 : Nat), pL s1 350 0 (Int32.toInt64 x)) := by
  unfold F_L_busyNight
  rw [h]
  rfl
theorem L_firstFree_1 {fl : Nat} {s s1 : Mem} {v1 v2 v3 : Int32} (h : F_X7_firstFree fl 320 v1 v2 v3 s = some (.inl 3, s1)) : F_L_firstFree fl 320 v1 v2 v3 350 s = some (oI (1 : Nat), s1) := by
  unfold F_L_firstFree
  rw [h]
  rfl
theorem L_firstFree_2 {fl : Nat} {s s1 : Mem} {v1 v2 v3 : Int32} (h : F_X7_firstFree fl 320 v1 v2 v3 s = some (.inl 1, s1)) : F_L_firstFree fl 320 v1 v2 v3 350 s = some (oI (2 : Nat), s1) := by
  unfold F_L_firstFree
  rw [h]
  rfl
theorem L_firstFree_3 {fl : Nat} {s s1 : Mem} {v1 v2 v3 : Int32} (h : F_X7_firstFree fl 320 v1 v2 v3 s = some (.inl 6, s1)) : F_L_firstFree fl 320 v1 v2 v3 350 s = some (oI (3 : Nat), s1) := by
  unfold F_L_firstFree
  rw [h]
  rfl
theorem L_firstFree_v {fl : Nat} {s s1 : Mem} {v1 v2 v3 : Int32} {x : Int32} (h : F_X7_firstFree fl 320 v1 v2 v3 s = some (.inr x, s1)) : F_L_firstFree fl 320 v1 v2 v3 350 s = some (oI (0 : Nat), pL s1 350 0 (Int32.toInt64 x)) := by
  unfold F_L_firstFree
  rw [h]
  rfl
theorem L_power_1 {fl : Nat} {s s1 : Mem} {v1 v2 : Int32} (h : F_X7_power fl 320 v1 v2 s = some (.inl 3, s1)) : F_L_power fl 320 v1 v2 350 s = some (oI (1 : Nat), s1) := by
  unfold F_L_power
  rw [h]
  rfl
theorem L_power_v {fl : Nat} {s s1 : Mem} {v1 v2 : Int32} {x : Int32} (h : F_X7_power fl 320 v1 v2 s = some (.inr x, s1)) : F_L_power fl 320 v1 v2 350 s = some (oI (0 : Nat), pL s1 350 0 (Int32.toInt64 x)) := by
  unfold F_L_power
  rw [h]
  rfl
theorem L_peak_1 {fl : Nat} {s s1 : Mem} {v1 : Int32} (h : F_X7_peak fl 320 v1 s = some (.inl 3, s1)) : F_L_peak fl 320 v1 350 s = some (oI (1 : Nat), s1) := by
  unfold F_L_peak
  rw [h]
  rfl
theorem L_peak_2 {fl : Nat} {s s1 : Mem} {v1 : Int32} (h : F_X7_peak fl 320 v1 s = some (.inl 6, s1)) : F_L_peak fl 320 v1 350 s = some (oI (2 : Nat), s1) := by
  unfold F_L_peak
  rw [h]
  rfl
theorem L_peak_v {fl : Nat} {s s1 : Mem} {v1 : Int32} {x : Int32} (h : F_X7_peak fl 320 v1 s = some (.inr x, s1)) : F_L_peak fl 320 v1 350 s = some (oI (0 : Nat), pL s1 350 0 (Int32.toInt64 x)) := by
  unfold F_L_peak
  rw [h]
  rfl
theorem L_gap_1 {fl : Nat} {s s1 : Mem} {v1 v2 v3 : Int32} (h : F_X7_gap fl 320 v1 v2 v3 s = some (.inl 3, s1)) : F_L_gap fl 320 v1 v2 v3 350 s = some (oI (1 : Nat), s1) := by
  unfold F_L_gap
  rw [h]
  rfl
theorem L_gap_2 {fl : Nat} {s s1 : Mem} {v1 v2 v3 : Int32} (h : F_X7_gap fl 320 v1 v2 v3 s = some (.inl 6, s1)) : F_L_gap fl 320 v1 v2 v3 350 s = some (oI (2 : Nat), s1) := by
  unfold F_L_gap
  rw [h]
  rfl
theorem L_gap_v {fl : Nat} {s s1 : Mem} {v1 v2 v3 : Int32} {x : Int32} (h : F_X7_gap fl 320 v1 v2 v3 s = some (.inr x, s1)) : F_L_gap fl 320 v1 v2 v3 350 s = some (oI (0 : Nat), pL s1 350 0 (Int32.toInt64 x)) := by
  unfold F_L_gap
  rw [h]
  rfl
theorem L_account_1 {fl : Nat} {s s1 : Mem} {v1 : Int32} (h : F_X7_account fl 320 v1 s = some (.inl 1, s1)) : F_L_account fl 320 v1 350 s = some (oI (1 : Nat), s1) := by
  unfold F_L_account
  rw [h]
  rfl
theorem L_account_v {fl : Nat} {s s1 : Mem} {v1 : Int32} {x : Int32} (h : F_X7_account fl 320 v1 s = some (.inr x, s1)) : F_L_account fl 320 v1 350 s = some (oI (0 : Nat), pL s1 350 0 (Int32.toInt64 x)) := by
  unfold F_L_account
  rw [h]
  rfl
theorem L_share_1 {fl : Nat} {s s1 : Mem} (h : F_X7_share fl 320 s = some (.inl 4, s1)) : F_L_share fl 320 351 s = some (oI (1 : Nat), s1) := by
  unfold F_L_share
  rw [h]
  rfl
theorem L_share_v {fl : Nat} {s s1 : Mem} {x : UInt64} (h : F_X7_share fl 320 s = some (.inr x, s1)) : F_L_share fl 320 351 s = some (oI (0 : Nat), pD s1 351 0 x) := by
  unfold F_L_share
  rw [h]
  rfl
theorem L_undo_1 {fl : Nat} {s s1 : Mem} (h : F_X7_undo fl 320 s = some (.inl 2, s1)) : F_L_undo fl 320 350 s = some (oI (1 : Nat), s1) := by
  unfold F_L_undo
  rw [h]
  rfl
theorem L_undo_v {fl : Nat} {s s1 : Mem} {x : Int32} (h : F_X7_undo fl 320 s = some (.inr x, s1)) : F_L_undo fl 320 350 s = some (oI (0 : Nat), pL s1 350 0 (Int32.toInt64 x)) := by
  unfold F_L_undo
  rw [h]
  rfl
theorem L_restore_1 {fl : Nat} {s s1 : Mem} (h : F_X7_restore fl 320 s = some (.inl 2, s1)) : F_L_restore fl 320 s = some (oI (1 : Nat), s1) := by
  unfold F_L_restore
  rw [h]
  rfl
theorem L_restore_v {fl : Nat} {s s1 : Mem} (h : F_X7_restore fl 320 s = some (.inr (), s1)) : F_L_restore fl 320 s = some (oI (0 : Nat), s1) := by
  unfold F_L_restore
  rw [h]
  rfl
