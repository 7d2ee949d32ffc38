def X_law (Ln : Nat) (xs : Nat → Int32) : MX := (yL_law, code, 9, ret, room_1, 2, [], some (Ln, xs))
theorem sh320 : shape 320 = some (.inl 9) := rfl
theorem sh340 : shape 340 = some (.inl 10) := rfl
theorem sh350 : shape 350 = some (.inr (1, 1)) := rfl
theorem sh351 : shape 351 = some (.inr (3, 1)) := rfl
section EL
variable {l : Launch} {X : MX} {r : Rs} {fa : Bool} {n : Nat} {σ : Mem} {kc ks pc : Nat} {L : List (Nat × Value)} {S : List Value} {Ln : Nat} {xs : Nat → Int32}
theorem SC_x {b base : Nat} {s : State} (hX : xS X = some (Ln, xs)) (h : SC (xS X) b base s) : va_X b Ln xs s s.heap ∧ b < base ∧ base = s.heap.size := by
  rw [hX] at h
  exact h
theorem E_slen (hX : xS X = some (Ln, xs)) (hd : decode (xC X) pc = .ok (.arraylength, 1)) (k : E l X r fa n σ kc ks (pc + 1) L (.int (nI Ln) :: S)) : E l X r fa n σ kc ks pc L (.ref 400 :: S) := by
  intro p e s m args below meth c base b D aC H locs cells slots ls hF hP hS hz hl hc hs
  obtain ⟨h1, h2, -⟩ := SC_x hX hF.2.2.2.2.2.2.2.2.2.2.2.2
  exact va_slen hF.1 hF.2.1 h1 (Nat.lt_of_lt_of_le h2 hF.2.2.2.2.2.2.2.1) (Nat.not_le.mpr h2) hS hd (k p e s m args below meth c base b D aC H locs cells slots ls hF hP hS hz hl hc hs)
theorem E_sld {i : Int32} (hX : xS X = some (Ln, xs)) (hin : vp_in i Ln) (hd : decode (xC X) pc = .ok (.iaload, 1)) (k : E l X r fa n σ kc ks (pc + 1) L (.int (xs i.toNatClampNeg) :: S)) : E l X r fa n σ kc ks pc L (.int i :: .ref 400 :: S) := by
  intro p e s m args below meth c base b D aC H locs cells slots ls hF hP hS hz hl hc hs
  obtain ⟨h1, h2, -⟩ := SC_x hX hF.2.2.2.2.2.2.2.2.2.2.2.2
  exact va_sld hF.1 hF.2.1 h1 (Nat.lt_of_lt_of_le h2 hF.2.2.2.2.2.2.2.1) (Nat.not_le.mpr h2) hS hin hd (k p e s m args below meth c base b D aC H locs cells slots ls hF hP hS hz hl hc hs)
theorem lw_retA {p : Program} {l : Launch} {e : Env} {s : State} {m : MethodId} {args : Array Value} {below : List Frame} {meth : Method} {c : Code} {d0 : Drawn} (hd0 : s.drawn.sameBut d0 lw_cs) (hx : p.tables.exec = Jvm.exec) (hb : c.code = code) (hr : meth.sig.returnType = ret) (hlocks : meth.locks = false) {pc : Nat} {H : Heap} {ls : Array Slot} (hdg : decode code pc = .ok (.ireturn, 1)) : W p l e room_1 (s.setDrawn d0) m args below meth c H [] 603072 7182442 (lw_Z below args s) (F0 m pc ls [.int 1]) := by
  intro T hT X
  obtain ⟨fs, hret, hrun, hended, hW, hframe⟩ := X.leave (v := some (.int 1)) (hlocks := hlocks) (fun h => by rw [hr] at h; cases h)
  have hmeth' : T.vm.method? m = some meth := X.method'
  refine ⟨T.setFrames fs, ?_, .returned (some (.int 1)), hrun, hended, rfl, lw_closed hd0 ⟨_, rfl⟩ hW hframe⟩
  jvm_step X.here [X.here.top, hx, hb, hdg, hmeth', hr, ret, narrow_b1]
  (try refine ⟨rfl, ?_⟩); (try refine ⟨rfl, ?_⟩)
  first | (intro acts; rw [hret _ acts rfl rfl rfl]) | rw [hret _ _ rfl rfl rfl]
  exact Steps.refl _
theorem E_lawend (hX : xS X = some (Ln, xs)) (hk : xK X = 2) (hC : xC X = code) (hT : xT X = ret) (hR : xR X = room_1) (hd : decode code pc = .ok (.ireturn, 1)) : E l X r fa n σ kc ks pc L [.int 1] := by
  intro p e s m args below meth c base b D aC H locs cells slots ls hF hP hS hz hl hc hs
  obtain ⟨-, -, h3⟩ := SC_x hX hF.2.2.2.2.2.2.2.2.2.2.2.2
  unfold QQ
  rw [if_neg (by rw [hk]; decide), if_neg (by rw [hk]; decide)]
  rw [hR] at hc hs ⊢
  refine va_forget (fun q hq => by rw [← h3]; exact hS.2.2 q hq) ?_
  refine W.widen (k := 603072) (n := 7182442) (Nat.le_trans (Nat.le_add_right _ _) hc) (Nat.le_trans (Nat.le_add_right _ _) hs) ?_
  refine W.base ?_
  exact lw_retA (Drawn.sameBut.refl s.drawn lw_cs) hF.1 (hF.2.1.trans hC) (hF.2.2.2.1.trans hT) hF.2.2.2.2.2.2.1 hd
end EL
theorem wT618 : Cond.initialized RL ∈ TBL := in_TBL (mT1 (List.mem_of_getElem? (i := 0) (by decide +kernel))) (by decide +kernel)
theorem wT619 : Cond.codeWith yL_addPitch cL_addPitch 7 (some .int) [(0, 14, 17, 13), (0, 14, 21, 15)] ∈ TBL := in_TBL (mT2 (List.mem_of_getElem? (i := 131) (by decide +kernel))) (by decide +kernel)
theorem wT620 : Cond.methodLink RL 121 yL_addPitch ∈ TBL := in_TBL (mT2 (List.mem_of_getElem? (i := 129) (by decide +kernel))) (by decide +kernel)
theorem wT621 : Cond.static yL_addPitch ∈ TBL := in_TBL (mT2 (List.mem_of_getElem? (i := 130) (by decide +kernel))) (by decide +kernel)
theorem wT622 : Cond.code yX8_addPitch cX8_addPitch 6 (some .int) ∈ TBL := in_TBL (mT5 (List.mem_of_getElem? (i := 201) (by decide +kernel))) (by decide +kernel)
theorem wT623 : Cond.methodLink RL 126 yX8_addPitch ∈ TBL := in_TBL (mT5 (List.mem_of_getElem? (i := 198) (by decide +kernel))) (by decide +kernel)
theorem wT624 : Cond.instanceMethod yX8_addPitch ∈ TBL := in_TBL (mT5 (List.mem_of_getElem? (i := 199) (by decide +kernel))) (by decide +kernel)
theorem wT625 : Cond.selects RX8 yX8_addPitch yX8_addPitch ∈ TBL := in_TBL (mT5 (List.mem_of_getElem? (i := 200) (by decide +kernel))) (by decide +kernel)
theorem wT626 : Cond.code yX8_thrown cX8_thrown 1 (some .int) ∈ TBL := in_TBL (mT5 (List.mem_of_getElem? (i := 197) (by decide +kernel))) (by decide +kernel)
theorem wT627 : Cond.methodLink RL 127 yX8_thrown ∈ TBL := in_TBL (mT5 (List.mem_of_getElem? (i := 194) (by decide +kernel))) (by decide +kernel)
theorem wT628 : Cond.instanceMethod yX8_thrown ∈ TBL := in_TBL (mT5 (List.mem_of_getElem? (i := 195) (by decide +kernel))) (by decide +kernel)
theorem wT629 : Cond.selects RX8 yX8_thrown yX8_thrown ∈ TBL := in_TBL (mT5 (List.mem_of_getElem? (i := 196) (by decide +kernel))) (by decide +kernel)
theorem wT630 : Cond.codeWith yL_pitch cL_pitch 5 (some .int) [(0, 10, 13, 21), (0, 10, 17, 13)] ∈ TBL := in_TBL (mT3 (List.mem_of_getElem? (i := 3) (by decide +kernel))) (by decide +kernel)
theorem wT631 : Cond.methodLink RL 130 yL_pitch ∈ TBL := in_TBL (mT3 (List.mem_of_getElem? (i := 1) (by decide +kernel))) (by decide +kernel)
theorem wT632 : Cond.static yL_pitch ∈ TBL := in_TBL (mT3 (List.mem_of_getElem? (i := 2) (by decide +kernel))) (by decide +kernel)
theorem wT633 : Cond.code yX8_pitch cX8_pitch 3 (some .int) ∈ TBL := in_TBL (mT5 (List.mem_of_getElem? (i := 216) (by decide +kernel))) (by decide +kernel)
theorem wT634 : Cond.methodLink RL 133 yX8_pitch ∈ TBL := in_TBL (mT5 (List.mem_of_getElem? (i := 213) (by decide +kernel))) (by decide +kernel)
theorem wT635 : Cond.instanceMethod yX8_pitch ∈ TBL := in_TBL (mT5 (List.mem_of_getElem? (i := 214) (by decide +kernel))) (by decide +kernel)
theorem wT636 : Cond.selects RX8 yX8_pitch yX8_pitch ∈ TBL := in_TBL (mT5 (List.mem_of_getElem? (i := 215) (by decide +kernel))) (by decide +kernel)
theorem wT637 : Cond.codeWith yL_setLimit cL_setLimit 5 (some .int) [(0, 10, 13, 21), (0, 10, 17, 13)] ∈ TBL := in_TBL (mT3 (List.mem_of_getElem? (i := 80) (by decide +kernel))) (by decide +kernel)
theorem wT638 : Cond.methodLink RL 134 yL_setLimit ∈ TBL := in_TBL (mT3 (List.mem_of_getElem? (i := 78) (by decide +kernel))) (by decide +kernel)
theorem wT639 : Cond.static yL_setLimit ∈ TBL := in_TBL (mT3 (List.mem_of_getElem? (i := 79) (by decide +kernel))) (by decide +kernel)
theorem wT640 : Cond.code yX8_setLimit cX8_setLimit 3 (some .int) ∈ TBL := in_TBL (mT6 (List.mem_of_getElem? (i := 22) (by decide +kernel))) (by decide +kernel)
theorem wT641 : Cond.methodLink RL 136 yX8_setLimit ∈ TBL := in_TBL (mT6 (List.mem_of_getElem? (i := 19) (by decide +kernel))) (by decide +kernel)
theorem wT642 : Cond.instanceMethod yX8_setLimit ∈ TBL := in_TBL (mT6 (List.mem_of_getElem? (i := 20) (by decide +kernel))) (by decide +kernel)
theorem wT643 : Cond.selects RX8 yX8_setLimit yX8_setLimit ∈ TBL := in_TBL (mT6 (List.mem_of_getElem? (i := 21) (by decide +kernel))) (by decide +kernel)
theorem wT644 : Cond.codeWith yL_setRate cL_setRate 5 (some .int) [(0, 10, 13, 21), (0, 10, 17, 13)] ∈ TBL := in_TBL (mT3 (List.mem_of_getElem? (i := 95) (by decide +kernel))) (by decide +kernel)
theorem wT645 : Cond.methodLink RL 137 yL_setRate ∈ TBL := in_TBL (mT3 (List.mem_of_getElem? (i := 93) (by decide +kernel))) (by decide +kernel)
theorem wT646 : Cond.static yL_setRate ∈ TBL := in_TBL (mT3 (List.mem_of_getElem? (i := 94) (by decide +kernel))) (by decide +kernel)
theorem wT647 : Cond.code yX8_setRate cX8_setRate 3 (some .int) ∈ TBL := in_TBL (mT6 (List.mem_of_getElem? (i := 33) (by decide +kernel))) (by decide +kernel)
theorem wT648 : Cond.methodLink RL 139 yX8_setRate ∈ TBL := in_TBL (mT6 (List.mem_of_getElem? (i := 30) (by decide +kernel))) (by decide +kernel)
theorem wT649 : Cond.instanceMethod yX8_setRate ∈ TBL := in_TBL (mT6 (List.mem_of_getElem? (i := 31) (by decide +kernel))) (by decide +kernel)
theorem wT650 : Cond.selects RX8 yX8_setRate yX8_setRate ∈ TBL := in_TBL (mT6 (List.mem_of_getElem? (i := 32) (by decide +kernel))) (by decide +kernel)
theorem wT651 : Cond.codeWith yL_setGap cL_setGap 4 (some .int) [(0, 9, 12, 13)] ∈ TBL := in_TBL (mT3 (List.mem_of_getElem? (i := 103) (by decide +kernel))) (by decide +kernel)
theorem wT652 : Cond.methodLink RL 140 yL_setGap ∈ TBL := in_TBL (mT3 (List.mem_of_getElem? (i := 101) (by decide +kernel))) (by decide +kernel)
theorem wT653 : Cond.static yL_setGap ∈ TBL := in_TBL (mT3 (List.mem_of_getElem? (i := 102) (by decide +kernel))) (by decide +kernel)
theorem wT654 : Cond.code yX8_setGap cX8_setGap 2 (some .int) ∈ TBL := in_TBL (mT6 (List.mem_of_getElem? (i := 37) (by decide +kernel))) (by decide +kernel)
theorem wT655 : Cond.methodLink RL 143 yX8_setGap ∈ TBL := in_TBL (mT6 (List.mem_of_getElem? (i := 34) (by decide +kernel))) (by decide +kernel)
theorem wT656 : Cond.instanceMethod yX8_setGap ∈ TBL := in_TBL (mT6 (List.mem_of_getElem? (i := 35) (by decide +kernel))) (by decide +kernel)
theorem wT657 : Cond.selects RX8 yX8_setGap yX8_setGap ∈ TBL := in_TBL (mT6 (List.mem_of_getElem? (i := 36) (by decide +kernel))) (by decide +kernel)
theorem wT658 : Cond.codeWith yL_addSeason cL_addSeason 6 (some .int) [(0, 12, 15, 13), (0, 12, 19, 15)] ∈ TBL := in_TBL (mT3 (List.mem_of_getElem? (i := 111) (by decide +kernel))) (by decide +kernel)
theorem wT659 : Cond.methodLink RL 144 yL_addSeason ∈ TBL := in_TBL (mT3 (List.mem_of_getElem? (i := 109) (by decide +kernel))) (by decide +kernel)
theorem wT660 : Cond.static yL_addSeason ∈ TBL := in_TBL (mT3 (List.mem_of_getElem? (i := 110) (by decide +kernel))) (by decide +kernel)
theorem wT661 : Cond.code yX8_addSeason cX8_addSeason 5 (some .int) ∈ TBL := in_TBL (mT6 (List.mem_of_getElem? (i := 41) (by decide +kernel))) (by decide +kernel)
theorem wT662 : Cond.methodLink RL 147 yX8_addSeason ∈ TBL := in_TBL (mT6 (List.mem_of_getElem? (i := 38) (by decide +kernel))) (by decide +kernel)
theorem wT663 : Cond.instanceMethod yX8_addSeason ∈ TBL := in_TBL (mT6 (List.mem_of_getElem? (i := 39) (by decide +kernel))) (by decide +kernel)
theorem wT664 : Cond.selects RX8 yX8_addSeason yX8_addSeason ∈ TBL := in_TBL (mT6 (List.mem_of_getElem? (i := 40) (by decide +kernel))) (by decide +kernel)
theorem wT665 : Cond.codeWith yL_dropSeason cL_dropSeason 4 (some .int) [(0, 9, 12, 21)] ∈ TBL := in_TBL (mT3 (List.mem_of_getElem? (i := 127) (by decide +kernel))) (by decide +kernel)
theorem wT666 : Cond.methodLink RL 148 yL_dropSeason ∈ TBL := in_TBL (mT3 (List.mem_of_getElem? (i := 125) (by decide +kernel))) (by decide +kernel)
theorem wT667 : Cond.static yL_dropSeason ∈ TBL := in_TBL (mT3 (List.mem_of_getElem? (i := 126) (by decide +kernel))) (by decide +kernel)
theorem wT668 : Cond.code yX8_dropSeason cX8_dropSeason 3 (some .int) ∈ TBL := in_TBL (mT6 (List.mem_of_getElem? (i := 48) (by decide +kernel))) (by decide +kernel)
theorem wT669 : Cond.methodLink RL 150 yX8_dropSeason ∈ TBL := in_TBL (mT6 (List.mem_of_getElem? (i := 45) (by decide +kernel))) (by decide +kernel)
theorem wT670 : Cond.instanceMethod yX8_dropSeason ∈ TBL := in_TBL (mT6 (List.mem_of_getElem? (i := 46) (by decide +kernel))) (by decide +kernel)
theorem wT671 : Cond.selects RX8 yX8_dropSeason yX8_dropSeason ∈ TBL := in_TBL (mT6 (List.mem_of_getElem? (i := 47) (by decide +kernel))) (by decide +kernel)
theorem wT672 : Cond.codeWith yL_season cL_season 5 (some .int) [(0, 10, 13, 21), (0, 10, 17, 13)] ∈ TBL := in_TBL (mT3 (List.mem_of_getElem? (i := 143) (by decide +kernel))) (by decide +kernel)
theorem wT673 : Cond.methodLink RL 151 yL_season ∈ TBL := in_TBL (mT3 (List.mem_of_getElem? (i := 141) (by decide +kernel))) (by decide +kernel)
theorem wT674 : Cond.static yL_season ∈ TBL := in_TBL (mT3 (List.mem_of_getElem? (i := 142) (by decide +kernel))) (by decide +kernel)
theorem wT675 : Cond.code yX8_season cX8_season 3 (some .int) ∈ TBL := in_TBL (mT6 (List.mem_of_getElem? (i := 52) (by decide +kernel))) (by decide +kernel)
theorem wT676 : Cond.methodLink RL 153 yX8_season ∈ TBL := in_TBL (mT6 (List.mem_of_getElem? (i := 49) (by decide +kernel))) (by decide +kernel)
theorem wT677 : Cond.instanceMethod yX8_season ∈ TBL := in_TBL (mT6 (List.mem_of_getElem? (i := 50) (by decide +kernel))) (by decide +kernel)
theorem wT678 : Cond.selects RX8 yX8_season yX8_season ∈ TBL := in_TBL (mT6 (List.mem_of_getElem? (i := 51) (by decide +kernel))) (by decide +kernel)
theorem wT679 : Cond.codeWith yL_leastStay cL_leastStay 5 (some .int) [(0, 10, 13, 13)] ∈ TBL := in_TBL (mT3 (List.mem_of_getElem? (i := 151) (by decide +kernel))) (by decide +kernel)
theorem wT680 : Cond.methodLink RL 154 yL_leastStay ∈ TBL := in_TBL (mT3 (List.mem_of_getElem? (i := 149) (by decide +kernel))) (by decide +kernel)
theorem wT681 : Cond.static yL_leastStay ∈ TBL := in_TBL (mT3 (List.mem_of_getElem? (i := 150) (by decide +kernel))) (by decide +kernel)
theorem wT682 : Cond.code yX8_leastStay cX8_leastStay 3 (some .int) ∈ TBL := in_TBL (mT6 (List.mem_of_getElem? (i := 56) (by decide +kernel))) (by decide +kernel)
theorem wT683 : Cond.methodLink RL 156 yX8_leastStay ∈ TBL := in_TBL (mT6 (List.mem_of_getElem? (i := 53) (by decide +kernel))) (by decide +kernel)
theorem wT684 : Cond.instanceMethod yX8_leastStay ∈ TBL := in_TBL (mT6 (List.mem_of_getElem? (i := 54) (by decide +kernel))) (by decide +kernel)
theorem wT685 : Cond.selects RX8 yX8_leastStay yX8_leastStay ∈ TBL := in_TBL (mT6 (List.mem_of_getElem? (i := 55) (by decide +kernel))) (by decide +kernel)
theorem wT686 : Cond.codeWith yL_book cL_book 9 (some .int) [(0, 18, 21, 13), (0, 18, 25, 15), (0, 18, 29, 50)] ∈ TBL := in_TBL (mT3 (List.mem_of_getElem? (i := 166) (by decide +kernel))) (by decide +kernel)
theorem wT687 : Cond.methodLink RL 157 yL_book ∈ TBL := in_TBL (mT3 (List.mem_of_getElem? (i := 164) (by decide +kernel))) (by decide +kernel)
theorem wT688 : Cond.static yL_book ∈ TBL := in_TBL (mT3 (List.mem_of_getElem? (i := 165) (by decide +kernel))) (by decide +kernel)
theorem wT689 : Cond.methodLink RL 160 yX8_book ∈ TBL := in_TBL (mT6 (List.mem_of_getElem? (i := 61) (by decide +kernel))) (by decide +kernel)
theorem wT690 : Cond.codeWith yL_append cL_append 3 (some .int) [(0, 5, 8, 15)] ∈ TBL := in_TBL (mT4 (List.mem_of_getElem? (i := 88) (by decide +kernel))) (by decide +kernel)
theorem wT691 : Cond.methodLink RL 161 yL_append ∈ TBL := in_TBL (mT4 (List.mem_of_getElem? (i := 86) (by decide +kernel))) (by decide +kernel)
theorem wT692 : Cond.static yL_append ∈ TBL := in_TBL (mT4 (List.mem_of_getElem? (i := 87) (by decide +kernel))) (by decide +kernel)
theorem wT693 : Cond.code yX8_append cX8_append 2 none ∈ TBL := in_TBL (mT6 (List.mem_of_getElem? (i := 124) (by decide +kernel))) (by decide +kernel)
theorem wT694 : Cond.methodLink RL 164 yX8_append ∈ TBL := in_TBL (mT6 (List.mem_of_getElem? (i := 121) (by decide +kernel))) (by decide +kernel)
theorem wT695 : Cond.instanceMethod yX8_append ∈ TBL := in_TBL (mT6 (List.mem_of_getElem? (i := 122) (by decide +kernel))) (by decide +kernel)
theorem wT696 : Cond.selects RX8 yX8_append yX8_append ∈ TBL := in_TBL (mT6 (List.mem_of_getElem? (i := 123) (by decide +kernel))) (by decide +kernel)
theorem wT697 : Cond.codeWith yL_readBooking cL_readBooking 3 (some .int) [(0, 8, 11, 13), (0, 8, 14, 15), (0, 8, 17, 50)] ∈ TBL := in_TBL (mT4 (List.mem_of_getElem? (i := 100) (by decide +kernel))) (by decide +kernel)
theorem wT698 : Cond.methodLink RL 165 yL_readBooking ∈ TBL := in_TBL (mT4 (List.mem_of_getElem? (i := 98) (by decide +kernel))) (by decide +kernel)
theorem wT699 : Cond.static yL_readBooking ∈ TBL := in_TBL (mT4 (List.mem_of_getElem? (i := 99) (by decide +kernel))) (by decide +kernel)
theorem wT700 : Cond.code yX8_readBooking cX8_readBooking 8 (some .int) ∈ TBL := in_TBL (mT6 (List.mem_of_getElem? (i := 128) (by decide +kernel))) (by decide +kernel)
theorem wT701 : Cond.methodLink RL 168 yX8_readBooking ∈ TBL := in_TBL (mT6 (List.mem_of_getElem? (i := 125) (by decide +kernel))) (by decide +kernel)
theorem wT702 : Cond.instanceMethod yX8_readBooking ∈ TBL := in_TBL (mT6 (List.mem_of_getElem? (i := 126) (by decide +kernel))) (by decide +kernel)
theorem wT703 : Cond.selects RX8 yX8_readBooking yX8_readBooking ∈ TBL := in_TBL (mT6 (List.mem_of_getElem? (i := 127) (by decide +kernel))) (by decide +kernel)
theorem wT704 : Cond.code yX7_faultPosition cX7_faultPosition 1 (some .int) ∈ TBL := in_TBL (mT2 (List.mem_of_getElem? (i := 100) (by decide +kernel))) (by decide +kernel)
theorem wT705 : Cond.methodLink RL 169 yX7_faultPosition ∈ TBL := in_TBL (mT2 (List.mem_of_getElem? (i := 97) (by decide +kernel))) (by decide +kernel)
theorem wT706 : Cond.instanceMethod yX7_faultPosition ∈ TBL := in_TBL (mT2 (List.mem_of_getElem? (i := 98) (by decide +kernel))) (by decide +kernel)
theorem wT707 : Cond.selects RX7 yX7_faultPosition yX7_faultPosition ∈ TBL := in_TBL (mT2 (List.mem_of_getElem? (i := 99) (by decide +kernel))) (by decide +kernel)
theorem wT708 : Cond.code yX8_faultPosition cX8_faultPosition 1 (some .int) ∈ TBL := in_TBL (mT6 (List.mem_of_getElem? (i := 149) (by decide +kernel))) (by decide +kernel)
theorem wT709 : Cond.methodLink RL 172 yX8_faultPosition ∈ TBL := in_TBL (mT6 (List.mem_of_getElem? (i := 146) (by decide +kernel))) (by decide +kernel)
theorem wT710 : Cond.instanceMethod yX8_faultPosition ∈ TBL := in_TBL (mT6 (List.mem_of_getElem? (i := 147) (by decide +kernel))) (by decide +kernel)
theorem wT711 : Cond.selects RX8 yX8_faultPosition yX8_faultPosition ∈ TBL := in_TBL (mT6 (List.mem_of_getElem? (i := 148) (by decide +kernel))) (by decide +kernel)
theorem wT712 : Cond.codeWith yL_refusal cL_refusal 3 (some .int) [(0, 8, 11, 63)] ∈ TBL := in_TBL (mT4 (List.mem_of_getElem? (i := 137) (by decide +kernel))) (by decide +kernel)
theorem wT713 : Cond.methodLink RL 173 yL_refusal ∈ TBL := in_TBL (mT4 (List.mem_of_getElem? (i := 135) (by decide +kernel))) (by decide +kernel)
theorem wT714 : Cond.static yL_refusal ∈ TBL := in_TBL (mT4 (List.mem_of_getElem? (i := 136) (by decide +kernel))) (by decide +kernel)
theorem wT715 : Cond.code yX8_refusal cX8_refusal 1 (some .int) ∈ TBL := in_TBL (mT6 (List.mem_of_getElem? (i := 153) (by decide +kernel))) (by decide +kernel)
theorem wT716 : Cond.methodLink RL 175 yX8_refusal ∈ TBL := in_TBL (mT6 (List.mem_of_getElem? (i := 150) (by decide +kernel))) (by decide +kernel)
theorem wT717 : Cond.instanceMethod yX8_refusal ∈ TBL := in_TBL (mT6 (List.mem_of_getElem? (i := 151) (by decide +kernel))) (by decide +kernel)
theorem wT718 : Cond.selects RX8 yX8_refusal yX8_refusal ∈ TBL := in_TBL (mT6 (List.mem_of_getElem? (i := 152) (by decide +kernel))) (by decide +kernel)
theorem wT719 : Cond.codeWith yL_party cL_party 5 (some .int) [(0, 10, 13, 21), (0, 10, 17, 13)] ∈ TBL := in_TBL (mT4 (List.mem_of_getElem? (i := 161) (by decide +kernel))) (by decide +kernel)
theorem wT720 : Cond.methodLink RL 176 yL_party ∈ TBL := in_TBL (mT4 (List.mem_of_getElem? (i := 159) (by decide +kernel))) (by decide +kernel)
theorem wT721 : Cond.static yL_party ∈ TBL := in_TBL (mT4 (List.mem_of_getElem? (i := 160) (by decide +kernel))) (by decide +kernel)
theorem wT722 : Cond.code yX8_party cX8_party 3 (some .int) ∈ TBL := in_TBL (mT6 (List.mem_of_getElem? (i := 157) (by decide +kernel))) (by decide +kernel)
theorem wT723 : Cond.methodLink RL 178 yX8_party ∈ TBL := in_TBL (mT6 (List.mem_of_getElem? (i := 154) (by decide +kernel))) (by decide +kernel)
theorem wT724 : Cond.instanceMethod yX8_party ∈ TBL := in_TBL (mT6 (List.mem_of_getElem? (i := 155) (by decide +kernel))) (by decide +kernel)
theorem wT725 : Cond.selects RX8 yX8_party yX8_party ∈ TBL := in_TBL (mT6 (List.mem_of_getElem? (i := 156) (by decide +kernel))) (by decide +kernel)
theorem wT726 : Cond.code yX7_moves cX7_moves 1 (some .int) ∈ TBL := in_TBL (mT2 (List.mem_of_getElem? (i := 104) (by decide +kernel))) (by decide +kernel)
theorem wT727 : Cond.methodLink RL 179 yX7_moves ∈ TBL := in_TBL (mT2 (List.mem_of_getElem? (i := 101) (by decide +kernel))) (by decide +kernel)
theorem wT728 : Cond.instanceMethod yX7_moves ∈ TBL := in_TBL (mT2 (List.mem_of_getElem? (i := 102) (by decide +kernel))) (by decide +kernel)
theorem wT729 : Cond.selects RX7 yX7_moves yX7_moves ∈ TBL := in_TBL (mT2 (List.mem_of_getElem? (i := 103) (by decide +kernel))) (by decide +kernel)
theorem wT730 : Cond.code yX8_moves cX8_moves 1 (some .int) ∈ TBL := in_TBL (mT6 (List.mem_of_getElem? (i := 161) (by decide +kernel))) (by decide +kernel)
theorem wT731 : Cond.methodLink RL 182 yX8_moves ∈ TBL := in_TBL (mT6 (List.mem_of_getElem? (i := 158) (by decide +kernel))) (by decide +kernel)
theorem wT732 : Cond.instanceMethod yX8_moves ∈ TBL := in_TBL (mT6 (List.mem_of_getElem? (i := 159) (by decide +kernel))) (by decide +kernel)
theorem wT733 : Cond.selects RX8 yX8_moves yX8_moves ∈ TBL := in_TBL (mT6 (List.mem_of_getElem? (i := 160) (by decide +kernel))) (by decide +kernel)
theorem wT734 : Cond.codeWith yL_moveOf cL_moveOf 5 (some .int) [(0, 10, 13, 63), (0, 10, 17, 13)] ∈ TBL := in_TBL (mT4 (List.mem_of_getElem? (i := 174) (by decide +kernel))) (by decide +kernel)
theorem wT735 : Cond.methodLink RL 183 yL_moveOf ∈ TBL := in_TBL (mT4 (List.mem_of_getElem? (i := 172) (by decide +kernel))) (by decide +kernel)
theorem wT736 : Cond.static yL_moveOf ∈ TBL := in_TBL (mT4 (List.mem_of_getElem? (i := 173) (by decide +kernel))) (by decide +kernel)
theorem wT737 : Cond.code yX8_moveOf cX8_moveOf 3 (some .int) ∈ TBL := in_TBL (mT6 (List.mem_of_getElem? (i := 165) (by decide +kernel))) (by decide +kernel)
theorem wT738 : Cond.methodLink RL 185 yX8_moveOf ∈ TBL := in_TBL (mT6 (List.mem_of_getElem? (i := 162) (by decide +kernel))) (by decide +kernel)
theorem wT739 : Cond.instanceMethod yX8_moveOf ∈ TBL := in_TBL (mT6 (List.mem_of_getElem? (i := 163) (by decide +kernel))) (by decide +kernel)
theorem wT740 : Cond.selects RX8 yX8_moveOf yX8_moveOf ∈ TBL := in_TBL (mT6 (List.mem_of_getElem? (i := 164) (by decide +kernel))) (by decide +kernel)
theorem wT741 : Cond.codeWith yL_move cL_move 5 (some .int) [(0, 10, 13, 21), (0, 10, 17, 15), (0, 10, 21, 50)] ∈ TBL := in_TBL (mT4 (List.mem_of_getElem? (i := 183) (by decide +kernel))) (by decide +kernel)
theorem wT742 : Cond.methodLink RL 186 yL_move ∈ TBL := in_TBL (mT4 (List.mem_of_getElem? (i := 181) (by decide +kernel))) (by decide +kernel)
theorem wT743 : Cond.static yL_move ∈ TBL := in_TBL (mT4 (List.mem_of_getElem? (i := 182) (by decide +kernel))) (by decide +kernel)
theorem wT744 : Cond.code yX8_move cX8_move 4 (some .int) ∈ TBL := in_TBL (mT6 (List.mem_of_getElem? (i := 169) (by decide +kernel))) (by decide +kernel)
theorem wT745 : Cond.methodLink RL 188 yX8_move ∈ TBL := in_TBL (mT6 (List.mem_of_getElem? (i := 166) (by decide +kernel))) (by decide +kernel)
theorem wT746 : Cond.instanceMethod yX8_move ∈ TBL := in_TBL (mT6 (List.mem_of_getElem? (i := 167) (by decide +kernel))) (by decide +kernel)
theorem wT747 : Cond.selects RX8 yX8_move yX8_move ∈ TBL := in_TBL (mT6 (List.mem_of_getElem? (i := 168) (by decide +kernel))) (by decide +kernel)
theorem wT748 : Cond.codeWith yL_cancel cL_cancel 4 (some .int) [(0, 9, 12, 21), (0, 9, 15, 15)] ∈ TBL := in_TBL (mT4 (List.mem_of_getElem? (i := 194) (by decide +kernel))) (by decide +kernel)
theorem wT749 : Cond.methodLink RL 189 yL_cancel ∈ TBL := in_TBL (mT4 (List.mem_of_getElem? (i := 192) (by decide +kernel))) (by decide +kernel)
theorem wT750 : Cond.static yL_cancel ∈ TBL := in_TBL (mT4 (List.mem_of_getElem? (i := 193) (by decide +kernel))) (by decide +kernel)
theorem wT751 : Cond.code yX8_cancel cX8_cancel 5 (some .int) ∈ TBL := in_TBL (mT6 (List.mem_of_getElem? (i := 181) (by decide +kernel))) (by decide +kernel)
theorem wT752 : Cond.methodLink RL 191 yX8_cancel ∈ TBL := in_TBL (mT6 (List.mem_of_getElem? (i := 178) (by decide +kernel))) (by decide +kernel)
theorem wT753 : Cond.instanceMethod yX8_cancel ∈ TBL := in_TBL (mT6 (List.mem_of_getElem? (i := 179) (by decide +kernel))) (by decide +kernel)
theorem wT754 : Cond.selects RX8 yX8_cancel yX8_cancel ∈ TBL := in_TBL (mT6 (List.mem_of_getElem? (i := 180) (by decide +kernel))) (by decide +kernel)
theorem wT755 : Cond.codeWith yL_advance cL_advance 4 (some .int) [(0, 9, 12, 13)] ∈ TBL := in_TBL (mT4 (List.mem_of_getElem? (i := 206) (by decide +kernel))) (by decide +kernel)
theorem wT756 : Cond.methodLink RL 192 yL_advance ∈ TBL := in_TBL (mT4 (List.mem_of_getElem? (i := 204) (by decide +kernel))) (by decide +kernel)
theorem wT757 : Cond.static yL_advance ∈ TBL := in_TBL (mT4 (List.mem_of_getElem? (i := 205) (by decide +kernel))) (by decide +kernel)
theorem wT758 : Cond.code yX8_advance cX8_advance 4 (some .int) ∈ TBL := in_TBL (mT6 (List.mem_of_getElem? (i := 185) (by decide +kernel))) (by decide +kernel)
theorem wT759 : Cond.methodLink RL 194 yX8_advance ∈ TBL := in_TBL (mT6 (List.mem_of_getElem? (i := 182) (by decide +kernel))) (by decide +kernel)
theorem wT760 : Cond.instanceMethod yX8_advance ∈ TBL := in_TBL (mT6 (List.mem_of_getElem? (i := 183) (by decide +kernel))) (by decide +kernel)
theorem wT761 : Cond.selects RX8 yX8_advance yX8_advance ∈ TBL := in_TBL (mT6 (List.mem_of_getElem? (i := 184) (by decide +kernel))) (by decide +kernel)
theorem wT762 : Cond.code yX7_tonight cX7_tonight 1 (some .int) ∈ TBL := in_TBL (mT2 (List.mem_of_getElem? (i := 108) (by decide +kernel))) (by decide +kernel)
theorem wT763 : Cond.methodLink RL 195 yX7_tonight ∈ TBL := in_TBL (mT2 (List.mem_of_getElem? (i := 105) (by decide +kernel))) (by decide +kernel)
theorem wT764 : Cond.instanceMethod yX7_tonight ∈ TBL := in_TBL (mT2 (List.mem_of_getElem? (i := 106) (by decide +kernel))) (by decide +kernel)
theorem wT765 : Cond.selects RX7 yX7_tonight yX7_tonight ∈ TBL := in_TBL (mT2 (List.mem_of_getElem? (i := 107) (by decide +kernel))) (by decide +kernel)
theorem wT766 : Cond.code yX8_tonight cX8_tonight 1 (some .int) ∈ TBL := in_TBL (mT6 (List.mem_of_getElem? (i := 189) (by decide +kernel))) (by decide +kernel)
theorem wT767 : Cond.methodLink RL 198 yX8_tonight ∈ TBL := in_TBL (mT6 (List.mem_of_getElem? (i := 186) (by decide +kernel))) (by decide +kernel)
theorem wT768 : Cond.instanceMethod yX8_tonight ∈ TBL := in_TBL (mT6 (List.mem_of_getElem? (i := 187) (by decide +kernel))) (by decide +kernel)
theorem wT769 : Cond.selects RX8 yX8_tonight yX8_tonight ∈ TBL := in_TBL (mT6 (List.mem_of_getElem? (i := 188) (by decide +kernel))) (by decide +kernel)
theorem wT770 : Cond.codeWith yL_obstacle cL_obstacle 5 (some .int) [(0, 10, 13, 21)] ∈ TBL := in_TBL (mT4 (List.mem_of_getElem? (i := 218) (by decide +kernel))) (by decide +kernel)
theorem wT771 : Cond.methodLink RL 199 yL_obstacle ∈ TBL := in_TBL (mT4 (List.mem_of_getElem? (i := 216) (by decide +kernel))) (by decide +kernel)
theorem wT772 : Cond.static yL_obstacle ∈ TBL := in_TBL (mT4 (List.mem_of_getElem? (i := 217) (by decide +kernel))) (by decide +kernel)
theorem wT773 : Cond.code yX8_obstacle cX8_obstacle 3 (some .int) ∈ TBL := in_TBL (mT6 (List.mem_of_getElem? (i := 193) (by decide +kernel))) (by decide +kernel)
theorem wT774 : Cond.methodLink RL 201 yX8_obstacle ∈ TBL := in_TBL (mT6 (List.mem_of_getElem? (i := 190) (by decide +kernel))) (by decide +kernel)
theorem wT775 : Cond.instanceMethod yX8_obstacle ∈ TBL := in_TBL (mT6 (List.mem_of_getElem? (i := 191) (by decide +kernel))) (by decide +kernel)
theorem wT776 : Cond.selects RX8 yX8_obstacle yX8_obstacle ∈ TBL := in_TBL (mT6 (List.mem_of_getElem? (i := 192) (by decide +kernel))) (by decide +kernel)
theorem wT777 : Cond.codeWith yL_occupant cL_occupant 5 (some .int) [(0, 10, 13, 21)] ∈ TBL := in_TBL (mT4 (List.mem_of_getElem? (i := 225) (by decide +kernel))) (by decide +kernel)
theorem wT778 : Cond.methodLink RL 202 yL_occupant ∈ TBL := in_TBL (mT4 (List.mem_of_getElem? (i := 223) (by decide +kernel))) (by decide +kernel)
theorem wT779 : Cond.static yL_occupant ∈ TBL := in_TBL (mT4 (List.mem_of_getElem? (i := 224) (by decide +kernel))) (by decide +kernel)
theorem wT780 : Cond.code yX8_occupant cX8_occupant 4 (some .int) ∈ TBL := in_TBL (mT6 (List.mem_of_getElem? (i := 197) (by decide +kernel))) (by decide +kernel)
theorem wT781 : Cond.methodLink RL 204 yX8_occupant ∈ TBL := in_TBL (mT6 (List.mem_of_getElem? (i := 194) (by decide +kernel))) (by decide +kernel)
theorem wT782 : Cond.instanceMethod yX8_occupant ∈ TBL := in_TBL (mT6 (List.mem_of_getElem? (i := 195) (by decide +kernel))) (by decide +kernel)
theorem wT783 : Cond.selects RX8 yX8_occupant yX8_occupant ∈ TBL := in_TBL (mT6 (List.mem_of_getElem? (i := 196) (by decide +kernel))) (by decide +kernel)
theorem wT784 : Cond.codeWith yL_busyNight cL_busyNight 5 (some .int) [(0, 10, 13, 21), (0, 10, 17, 63)] ∈ TBL := in_TBL (mT5 (List.mem_of_getElem? (i := 0) (by decide +kernel))) (by decide +kernel)
theorem wT785 : Cond.methodLink RL 205 yL_busyNight ∈ TBL := in_TBL (mT4 (List.mem_of_getElem? (i := 238) (by decide +kernel))) (by decide +kernel)
theorem wT786 : Cond.static yL_busyNight ∈ TBL := in_TBL (mT4 (List.mem_of_getElem? (i := 239) (by decide +kernel))) (by decide +kernel)
theorem wT787 : Cond.code yX8_busyNight cX8_busyNight 7 (some .int) ∈ TBL := in_TBL (mT6 (List.mem_of_getElem? (i := 201) (by decide +kernel))) (by decide +kernel)
theorem wT788 : Cond.methodLink RL 207 yX8_busyNight ∈ TBL := in_TBL (mT6 (List.mem_of_getElem? (i := 198) (by decide +kernel))) (by decide +kernel)
theorem wT789 : Cond.instanceMethod yX8_busyNight ∈ TBL := in_TBL (mT6 (List.mem_of_getElem? (i := 199) (by decide +kernel))) (by decide +kernel)
theorem wT790 : Cond.selects RX8 yX8_busyNight yX8_busyNight ∈ TBL := in_TBL (mT6 (List.mem_of_getElem? (i := 200) (by decide +kernel))) (by decide +kernel)
theorem wT791 : Cond.codeWith yL_firstFree cL_firstFree 6 (some .int) [(0, 12, 15, 21), (0, 12, 19, 13), (0, 12, 23, 63)] ∈ TBL := in_TBL (mT5 (List.mem_of_getElem? (i := 11) (by decide +kernel))) (by decide +kernel)
theorem wT792 : Cond.methodLink RL 208 yL_firstFree ∈ TBL := in_TBL (mT5 (List.mem_of_getElem? (i := 9) (by decide +kernel))) (by decide +kernel)
theorem wT793 : Cond.static yL_firstFree ∈ TBL := in_TBL (mT5 (List.mem_of_getElem? (i := 10) (by decide +kernel))) (by decide +kernel)
theorem wT794 : Cond.code yX8_firstFree cX8_firstFree 7 (some .int) ∈ TBL := in_TBL (mT6 (List.mem_of_getElem? (i := 205) (by decide +kernel))) (by decide +kernel)
theorem wT795 : Cond.methodLink RL 210 yX8_firstFree ∈ TBL := in_TBL (mT6 (List.mem_of_getElem? (i := 202) (by decide +kernel))) (by decide +kernel)
theorem wT796 : Cond.instanceMethod yX8_firstFree ∈ TBL := in_TBL (mT6 (List.mem_of_getElem? (i := 203) (by decide +kernel))) (by decide +kernel)
theorem wT797 : Cond.selects RX8 yX8_firstFree yX8_firstFree ∈ TBL := in_TBL (mT6 (List.mem_of_getElem? (i := 204) (by decide +kernel))) (by decide +kernel)
theorem wT798 : Cond.codeWith yL_power cL_power 5 (some .int) [(0, 10, 13, 21)] ∈ TBL := in_TBL (mT5 (List.mem_of_getElem? (i := 23) (by decide +kernel))) (by decide +kernel)
theorem wT799 : Cond.methodLink RL 211 yL_power ∈ TBL := in_TBL (mT5 (List.mem_of_getElem? (i := 21) (by decide +kernel))) (by decide +kernel)
theorem wT800 : Cond.static yL_power ∈ TBL := in_TBL (mT5 (List.mem_of_getElem? (i := 22) (by decide +kernel))) (by decide +kernel)
theorem wT801 : Cond.code yX8_power cX8_power 3 (some .int) ∈ TBL := in_TBL (mT6 (List.mem_of_getElem? (i := 209) (by decide +kernel))) (by decide +kernel)
theorem wT802 : Cond.methodLink RL 213 yX8_power ∈ TBL := in_TBL (mT6 (List.mem_of_getElem? (i := 206) (by decide +kernel))) (by decide +kernel)
theorem wT803 : Cond.instanceMethod yX8_power ∈ TBL := in_TBL (mT6 (List.mem_of_getElem? (i := 207) (by decide +kernel))) (by decide +kernel)
theorem wT804 : Cond.selects RX8 yX8_power yX8_power ∈ TBL := in_TBL (mT6 (List.mem_of_getElem? (i := 208) (by decide +kernel))) (by decide +kernel)
theorem wT805 : Cond.codeWith yL_peak cL_peak 4 (some .int) [(0, 9, 12, 21), (0, 9, 15, 63)] ∈ TBL := in_TBL (mT5 (List.mem_of_getElem? (i := 31) (by decide +kernel))) (by decide +kernel)
theorem wT806 : Cond.methodLink RL 214 yL_peak ∈ TBL := in_TBL (mT5 (List.mem_of_getElem? (i := 29) (by decide +kernel))) (by decide +kernel)
theorem wT807 : Cond.static yL_peak ∈ TBL := in_TBL (mT5 (List.mem_of_getElem? (i := 30) (by decide +kernel))) (by decide +kernel)
theorem wT808 : Cond.code yX8_peak cX8_peak 6 (some .int) ∈ TBL := in_TBL (mT6 (List.mem_of_getElem? (i := 213) (by decide +kernel))) (by decide +kernel)
theorem wT809 : Cond.methodLink RL 216 yX8_peak ∈ TBL := in_TBL (mT6 (List.mem_of_getElem? (i := 210) (by decide +kernel))) (by decide +kernel)
theorem wT810 : Cond.instanceMethod yX8_peak ∈ TBL := in_TBL (mT6 (List.mem_of_getElem? (i := 211) (by decide +kernel))) (by decide +kernel)
theorem wT811 : Cond.selects RX8 yX8_peak yX8_peak ∈ TBL := in_TBL (mT6 (List.mem_of_getElem? (i := 212) (by decide +kernel))) (by decide +kernel)
theorem wT812 : Cond.codeWith yL_gap cL_gap 6 (some .int) [(0, 12, 15, 21), (0, 12, 19, 63)] ∈ TBL := in_TBL (mT5 (List.mem_of_getElem? (i := 39) (by decide +kernel))) (by decide +kernel)
theorem wT813 : Cond.methodLink RL 217 yL_gap ∈ TBL := in_TBL (mT5 (List.mem_of_getElem? (i := 37) (by decide +kernel))) (by decide +kernel)
theorem wT814 : Cond.static yL_gap ∈ TBL := in_TBL (mT5 (List.mem_of_getElem? (i := 38) (by decide +kernel))) (by decide +kernel)
theorem wT815 : Cond.code yX8_gap cX8_gap 4 (some .int) ∈ TBL := in_TBL (mT6 (List.mem_of_getElem? (i := 217) (by decide +kernel))) (by decide +kernel)
theorem wT816 : Cond.methodLink RL 220 yX8_gap ∈ TBL := in_TBL (mT6 (List.mem_of_getElem? (i := 214) (by decide +kernel))) (by decide +kernel)
theorem wT817 : Cond.instanceMethod yX8_gap ∈ TBL := in_TBL (mT6 (List.mem_of_getElem? (i := 215) (by decide +kernel))) (by decide +kernel)
theorem wT818 : Cond.selects RX8 yX8_gap yX8_gap ∈ TBL := in_TBL (mT6 (List.mem_of_getElem? (i := 216) (by decide +kernel))) (by decide +kernel)
theorem wT819 : Cond.codeWith yL_account cL_account 4 (some .int) [(0, 9, 12, 13)] ∈ TBL := in_TBL (mT5 (List.mem_of_getElem? (i := 51) (by decide +kernel))) (by decide +kernel)
theorem wT820 : Cond.methodLink RL 221 yL_account ∈ TBL := in_TBL (mT5 (List.mem_of_getElem? (i := 49) (by decide +kernel))) (by decide +kernel)
theorem wT821 : Cond.static yL_account ∈ TBL := in_TBL (mT5 (List.mem_of_getElem? (i := 50) (by decide +kernel))) (by decide +kernel)
theorem wT822 : Cond.code yX8_account cX8_account 2 (some .int) ∈ TBL := in_TBL (mT6 (List.mem_of_getElem? (i := 221) (by decide +kernel))) (by decide +kernel)
theorem wT823 : Cond.methodLink RL 223 yX8_account ∈ TBL := in_TBL (mT6 (List.mem_of_getElem? (i := 218) (by decide +kernel))) (by decide +kernel)
theorem wT824 : Cond.instanceMethod yX8_account ∈ TBL := in_TBL (mT6 (List.mem_of_getElem? (i := 219) (by decide +kernel))) (by decide +kernel)
theorem wT825 : Cond.selects RX8 yX8_account yX8_account ∈ TBL := in_TBL (mT6 (List.mem_of_getElem? (i := 220) (by decide +kernel))) (by decide +kernel)
theorem wT826 : Cond.codeWith yL_share cL_share 3 (some .int) [(0, 7, 10, 109)] ∈ TBL := in_TBL (mT5 (List.mem_of_getElem? (i := 79) (by decide +kernel))) (by decide +kernel)
theorem wT827 : Cond.methodLink RL 224 yL_share ∈ TBL := in_TBL (mT5 (List.mem_of_getElem? (i := 77) (by decide +kernel))) (by decide +kernel)
theorem wT828 : Cond.static yL_share ∈ TBL := in_TBL (mT5 (List.mem_of_getElem? (i := 78) (by decide +kernel))) (by decide +kernel)
theorem wT829 : Cond.code yX8_share cX8_share 1 (some .double) ∈ TBL := in_TBL (mT6 (List.mem_of_getElem? (i := 233) (by decide +kernel))) (by decide +kernel)
theorem wT830 : Cond.methodLink RL 227 yX8_share ∈ TBL := in_TBL (mT6 (List.mem_of_getElem? (i := 230) (by decide +kernel))) (by decide +kernel)
theorem wT831 : Cond.instanceMethod yX8_share ∈ TBL := in_TBL (mT6 (List.mem_of_getElem? (i := 231) (by decide +kernel))) (by decide +kernel)
theorem wT832 : Cond.selects RX8 yX8_share yX8_share ∈ TBL := in_TBL (mT6 (List.mem_of_getElem? (i := 232) (by decide +kernel))) (by decide +kernel)
theorem wT833 : Cond.codeWith yL_undo cL_undo 3 (some .int) [(0, 8, 11, 15)] ∈ TBL := in_TBL (mT5 (List.mem_of_getElem? (i := 103) (by decide +kernel))) (by decide +kernel)
theorem wT834 : Cond.methodLink RL 228 yL_undo ∈ TBL := in_TBL (mT5 (List.mem_of_getElem? (i := 101) (by decide +kernel))) (by decide +kernel)
theorem wT835 : Cond.static yL_undo ∈ TBL := in_TBL (mT5 (List.mem_of_getElem? (i := 102) (by decide +kernel))) (by decide +kernel)
theorem wT836 : Cond.code yX8_undo cX8_undo 1 (some .int) ∈ TBL := in_TBL (mT6 (List.mem_of_getElem? (i := 237) (by decide +kernel))) (by decide +kernel)
theorem wT837 : Cond.methodLink RL 230 yX8_undo ∈ TBL := in_TBL (mT6 (List.mem_of_getElem? (i := 234) (by decide +kernel))) (by decide +kernel)
theorem wT838 : Cond.instanceMethod yX8_undo ∈ TBL := in_TBL (mT6 (List.mem_of_getElem? (i := 235) (by decide +kernel))) (by decide +kernel)
theorem wT839 : Cond.selects RX8 yX8_undo yX8_undo ∈ TBL := in_TBL (mT6 (List.mem_of_getElem? (i := 236) (by decide +kernel))) (by decide +kernel)
theorem wT840 : Cond.code yX7_save cX7_save 1 none ∈ TBL := in_TBL (mT2 (List.mem_of_getElem? (i := 112) (by decide +kernel))) (by decide +kernel)
theorem wT841 : Cond.methodLink RL 231 yX7_save ∈ TBL := in_TBL (mT2 (List.mem_of_getElem? (i := 109) (by decide +kernel))) (by decide +kernel)
theorem wT842 : Cond.instanceMethod yX7_save ∈ TBL := in_TBL (mT2 (List.mem_of_getElem? (i := 110) (by decide +kernel))) (by decide +kernel)
theorem wT843 : Cond.selects RX7 yX7_save yX7_save ∈ TBL := in_TBL (mT2 (List.mem_of_getElem? (i := 111) (by decide +kernel))) (by decide +kernel)
theorem wT844 : Cond.code yX8_save cX8_save 1 none ∈ TBL := in_TBL (mT7 (List.mem_of_getElem? (i := 1) (by decide +kernel))) (by decide +kernel)
theorem wT845 : Cond.methodLink RL 234 yX8_save ∈ TBL := in_TBL (mT6 (List.mem_of_getElem? (i := 238) (by decide +kernel))) (by decide +kernel)
theorem wT846 : Cond.instanceMethod yX8_save ∈ TBL := in_TBL (mT6 (List.mem_of_getElem? (i := 239) (by decide +kernel))) (by decide +kernel)
theorem wT847 : Cond.selects RX8 yX8_save yX8_save ∈ TBL := in_TBL (mT7 (List.mem_of_getElem? (i := 0) (by decide +kernel))) (by decide +kernel)
theorem wT848 : Cond.codeWith yL_restore cL_restore 2 (some .int) [(0, 4, 7, 15)] ∈ TBL := in_TBL (mT5 (List.mem_of_getElem? (i := 115) (by decide +kernel))) (by decide +kernel)
theorem wT849 : Cond.methodLink RL 235 yL_restore ∈ TBL := in_TBL (mT5 (List.mem_of_getElem? (i := 113) (by decide +kernel))) (by decide +kernel)
theorem wT850 : Cond.static yL_restore ∈ TBL := in_TBL (mT5 (List.mem_of_getElem? (i := 114) (by decide +kernel))) (by decide +kernel)
theorem wT851 : Cond.code yX8_restore cX8_restore 1 none ∈ TBL := in_TBL (mT7 (List.mem_of_getElem? (i := 5) (by decide +kernel))) (by decide +kernel)
theorem wT852 : Cond.methodLink RL 238 yX8_restore ∈ TBL := in_TBL (mT7 (List.mem_of_getElem? (i := 2) (by decide +kernel))) (by decide +kernel)
theorem wT853 : Cond.instanceMethod yX8_restore ∈ TBL := in_TBL (mT7 (List.mem_of_getElem? (i := 3) (by decide +kernel))) (by decide +kernel)
theorem wT854 : Cond.selects RX8 yX8_restore yX8_restore ∈ TBL := in_TBL (mT7 (List.mem_of_getElem? (i := 4) (by decide +kernel))) (by decide +kernel)
theorem cwSH_RL_121 : WSH RL 121 X_L_addPitch 6 := ⟨wT620, wT618, wT619, (by decide), ⟨by decide +kernel, by decide +kernel, by decide +kernel⟩, wT621⟩
theorem cwV_RL_126 : WV RL 126 X_X8_addPitch 4 := ⟨⟨wT623, wT339, wT622, rfl, ⟨by decide +kernel, by decide +kernel, by decide +kernel⟩⟩, wT624, wT625⟩
theorem cwV_RL_127 : WV RL 127 X_X8_thrown 0 := ⟨⟨wT627, wT339, wT626, rfl, ⟨by decide +kernel, by decide +kernel, by decide +kernel⟩⟩, wT628, wT629⟩
theorem cwSH_RL_130 : WSH RL 130 X_L_pitch 4 := ⟨wT631, wT618, wT630, (by decide), ⟨by decide +kernel, by decide +kernel, by decide +kernel⟩, wT632⟩
theorem cwV_RL_133 : WV RL 133 X_X8_pitch 2 := ⟨⟨wT634, wT339, wT633, rfl, ⟨by decide +kernel, by decide +kernel, by decide +kernel⟩⟩, wT635, wT636⟩
theorem cwSH_RL_134 : WSH RL 134 X_L_setLimit 4 := ⟨wT638, wT618, wT637, (by decide), ⟨by decide +kernel, by decide +kernel, by decide +kernel⟩, wT639⟩
theorem cwV_RL_136 : WV RL 136 X_X8_setLimit 2 := ⟨⟨wT641, wT339, wT640, rfl, ⟨by decide +kernel, by decide +kernel, by decide +kernel⟩⟩, wT642, wT643⟩
theorem cwSH_RL_137 : WSH RL 137 X_L_setRate 4 := ⟨wT645, wT618, wT644, (by decide), ⟨by decide +kernel, by decide +kernel, by decide +kernel⟩, wT646⟩
theorem cwV_RL_139 : WV RL 139 X_X8_setRate 2 := ⟨⟨wT648, wT339, wT647, rfl, ⟨by decide +kernel, by decide +kernel, by decide +kernel⟩⟩, wT649, wT650⟩
theorem cwSH_RL_140 : WSH RL 140 X_L_setGap 3 := ⟨wT652, wT618, wT651, (by decide), ⟨by decide +kernel, by decide +kernel, by decide +kernel⟩, wT653⟩
theorem cwV_RL_143 : WV RL 143 X_X8_setGap 1 := ⟨⟨wT655, wT339, wT654, rfl, ⟨by decide +kernel, by decide +kernel, by decide +kernel⟩⟩, wT656, wT657⟩
theorem cwSH_RL_144 : WSH RL 144 X_L_addSeason 5 := ⟨wT659, wT618, wT658, (by decide), ⟨by decide +kernel, by decide +kernel, by decide +kernel⟩, wT660⟩
theorem cwV_RL_147 : WV RL 147 X_X8_addSeason 3 := ⟨⟨wT662, wT339, wT661, rfl, ⟨by decide +kernel, by decide +kernel, by decide +kernel⟩⟩, wT663, wT664⟩
theorem cwSH_RL_148 : WSH RL 148 X_L_dropSeason 3 := ⟨wT666, wT618, wT665, (by decide), ⟨by decide +kernel, by decide +kernel, by decide +kernel⟩, wT667⟩
theorem cwV_RL_150 : WV RL 150 X_X8_dropSeason 1 := ⟨⟨wT669, wT339, wT668, rfl, ⟨by decide +kernel, by decide +kernel, by decide +kernel⟩⟩, wT670, wT671⟩
theorem cwSH_RL_151 : WSH RL 151 X_L_season 4 := ⟨wT673, wT618, wT672, (by decide), ⟨by decide +kernel, by decide +kernel, by decide +kernel⟩, wT674⟩
theorem cwV_RL_153 : WV RL 153 X_X8_season 2 := ⟨⟨wT676, wT339, wT675, rfl, ⟨by decide +kernel, by decide +kernel, by decide +kernel⟩⟩, wT677, wT678⟩
theorem cwSH_RL_154 : WSH RL 154 X_L_leastStay 4 := ⟨wT680, wT618, wT679, (by decide), ⟨by decide +kernel, by decide +kernel, by decide +kernel⟩, wT681⟩
theorem cwV_RL_156 : WV RL 156 X_X8_leastStay 2 := ⟨⟨wT683, wT339, wT682, rfl, ⟨by decide +kernel, by decide +kernel, by decide +kernel⟩⟩, wT684, wT685⟩
theorem cwSH_RL_157 : WSH RL 157 X_L_book 8 := ⟨wT687, wT618, wT686, (by decide), ⟨by decide +kernel, by decide +kernel, by decide +kernel⟩, wT688⟩
theorem cwV_RL_160 : WV RL 160 X_X8_book 6 := ⟨⟨wT689, wT339, wT471, rfl, ⟨by decide +kernel, by decide +kernel, by decide +kernel⟩⟩, wT473, wT474⟩
theorem cwSH_RL_161 : WSH RL 161 X_L_append 2 := ⟨wT691, wT618, wT690, (by decide), ⟨by decide +kernel, by decide +kernel, by decide +kernel⟩, wT692⟩
theorem cwV_RL_164 : WV RL 164 X_X8_append 1 := ⟨⟨wT694, wT339, wT693, rfl, ⟨by decide +kernel, by decide +kernel, by decide +kernel⟩⟩, wT695, wT696⟩
theorem cwSH_RL_165 : WSH RL 165 X_L_readBooking 2 := ⟨wT698, wT618, wT697, (by decide), ⟨by decide +kernel, by decide +kernel, by decide +kernel⟩, wT699⟩
theorem cwV_RL_168 : WV RL 168 X_X8_readBooking 0 := ⟨⟨wT701, wT339, wT700, rfl, ⟨by decide +kernel, by decide +kernel, by decide +kernel⟩⟩, wT702, wT703⟩
theorem cwV_RL_169 : WV RL 169 X_X7_faultPosition 0 := ⟨⟨wT705, wT57, wT704, rfl, ⟨by decide +kernel, by decide +kernel, by decide +kernel⟩⟩, wT706, wT707⟩
theorem cwV_RL_172 : WV RL 172 X_X8_faultPosition 0 := ⟨⟨wT709, wT339, wT708, rfl, ⟨by decide +kernel, by decide +kernel, by decide +kernel⟩⟩, wT710, wT711⟩
theorem cwSH_RL_173 : WSH RL 173 X_L_refusal 2 := ⟨wT713, wT618, wT712, (by decide), ⟨by decide +kernel, by decide +kernel, by decide +kernel⟩, wT714⟩
theorem cwV_RL_175 : WV RL 175 X_X8_refusal 0 := ⟨⟨wT716, wT339, wT715, rfl, ⟨by decide +kernel, by decide +kernel, by decide +kernel⟩⟩, wT717, wT718⟩
theorem cwSH_RL_176 : WSH RL 176 X_L_party 4 := ⟨wT720, wT618, wT719, (by decide), ⟨by decide +kernel, by decide +kernel, by decide +kernel⟩, wT721⟩
theorem cwV_RL_178 : WV RL 178 X_X8_party 2 := ⟨⟨wT723, wT339, wT722, rfl, ⟨by decide +kernel, by decide +kernel, by decide +kernel⟩⟩, wT724, wT725⟩
theorem cwV_RL_179 : WV RL 179 X_X7_moves 0 := ⟨⟨wT727, wT57, wT726, rfl, ⟨by decide +kernel, by decide +kernel, by decide +kernel⟩⟩, wT728, wT729⟩
theorem cwV_RL_182 : WV RL 182 X_X8_moves 0 := ⟨⟨wT731, wT339, wT730, rfl, ⟨by decide +kernel, by decide +kernel, by decide +kernel⟩⟩, wT732, wT733⟩
theorem cwSH_RL_183 : WSH RL 183 X_L_moveOf 4 := ⟨wT735, wT618, wT734, (by decide), ⟨by decide +kernel, by decide +kernel, by decide +kernel⟩, wT736⟩
theorem cwV_RL_185 : WV RL 185 X_X8_moveOf 2 := ⟨⟨wT738, wT339, wT737, rfl, ⟨by decide +kernel, by decide +kernel, by decide +kernel⟩⟩, wT739, wT740⟩
theorem cwSH_RL_186 : WSH RL 186 X_L_move 4 := ⟨wT742, wT618, wT741, (by decide), ⟨by decide +kernel, by decide +kernel, by decide +kernel⟩, wT743⟩
theorem cwV_RL_188 : WV RL 188 X_X8_move 2 := ⟨⟨wT745, wT339, wT744, rfl, ⟨by decide +kernel, by decide +kernel, by decide +kernel⟩⟩, wT746, wT747⟩
theorem cwSH_RL_189 : WSH RL 189 X_L_cancel 3 := ⟨wT749, wT618, wT748, (by decide), ⟨by decide +kernel, by decide +kernel, by decide +kernel⟩, wT750⟩
theorem cwV_RL_191 : WV RL 191 X_X8_cancel 1 := ⟨⟨wT752, wT339, wT751, rfl, ⟨by decide +kernel, by decide +kernel, by decide +kernel⟩⟩, wT753, wT754⟩
theorem cwSH_RL_192 : WSH RL 192 X_L_advance 3 := ⟨wT756, wT618, wT755, (by decide), ⟨by decide +kernel, by decide +kernel, by decide +kernel⟩, wT757⟩
theorem cwV_RL_194 : WV RL 194 X_X8_advance 1 := ⟨⟨wT759, wT339, wT758, rfl, ⟨by decide +kernel, by decide +kernel, by decide +kernel⟩⟩, wT760, wT761⟩
theorem cwV_RL_195 : WV RL 195 X_X7_tonight 0 := ⟨⟨wT763, wT57, wT762, rfl, ⟨by decide +kernel, by decide +kernel, by decide +kernel⟩⟩, wT764, wT765⟩
theorem cwV_RL_198 : WV RL 198 X_X8_tonight 0 := ⟨⟨wT767, wT339, wT766, rfl, ⟨by decide +kernel, by decide +kernel, by decide +kernel⟩⟩, wT768, wT769⟩
theorem cwSH_RL_199 : WSH RL 199 X_L_obstacle 4 := ⟨wT771, wT618, wT770, (by decide), ⟨by decide +kernel, by decide +kernel, by decide +kernel⟩, wT772⟩
theorem cwV_RL_201 : WV RL 201 X_X8_obstacle 2 := ⟨⟨wT774, wT339, wT773, rfl, ⟨by decide +kernel, by decide +kernel, by decide +kernel⟩⟩, wT775, wT776⟩
theorem cwSH_RL_202 : WSH RL 202 X_L_occupant 4 := ⟨wT778, wT618, wT777, (by decide), ⟨by decide +kernel, by decide +kernel, by decide +kernel⟩, wT779⟩
theorem cwV_RL_204 : WV RL 204 X_X8_occupant 2 := ⟨⟨wT781, wT339, wT780, rfl, ⟨by decide +kernel, by decide +kernel, by decide +kernel⟩⟩, wT782, wT783⟩
theorem cwSH_RL_205 : WSH RL 205 X_L_busyNight 4 := ⟨wT785, wT618, wT784, (by decide), ⟨by decide +kernel, by decide +kernel, by decide +kernel⟩, wT786⟩
theorem cwV_RL_207 : WV RL 207 X_X8_busyNight 2 := ⟨⟨wT788, wT339, wT787, rfl, ⟨by decide +kernel, by decide +kernel, by decide +kernel⟩⟩, wT789, wT790⟩
theorem cwSH_RL_208 : WSH RL 208 X_L_firstFree 5 := ⟨wT792, wT618, wT791, (by decide), ⟨by decide +kernel, by decide +kernel, by decide +kernel⟩, wT793⟩
theorem cwV_RL_210 : WV RL 210 X_X8_firstFree 3 := ⟨⟨wT795, wT339, wT794, rfl, ⟨by decide +kernel, by decide +kernel, by decide +kernel⟩⟩, wT796, wT797⟩
theorem cwSH_RL_211 : WSH RL 211 X_L_power 4 := ⟨wT799, wT618, wT798, (by decide), ⟨by decide +kernel, by decide +kernel, by decide +kernel⟩, wT800⟩
theorem cwV_RL_213 : WV RL 213 X_X8_power 2 := ⟨⟨wT802, wT339, wT801, rfl, ⟨by decide +kernel, by decide +kernel, by decide +kernel⟩⟩, wT803, wT804⟩
theorem cwSH_RL_214 : WSH RL 214 X_L_peak 3 := ⟨wT806, wT618, wT805, (by decide), ⟨by decide +kernel, by decide +kernel, by decide +kernel⟩, wT807⟩
theorem cwV_RL_216 : WV RL 216 X_X8_peak 1 := ⟨⟨wT809, wT339, wT808, rfl, ⟨by decide +kernel, by decide +kernel, by decide +kernel⟩⟩, wT810, wT811⟩
theorem cwSH_RL_217 : WSH RL 217 X_L_gap 5 := ⟨wT813, wT618, wT812, (by decide), ⟨by decide +kernel, by decide +kernel, by decide +kernel⟩, wT814⟩
theorem cwV_RL_220 : WV RL 220 X_X8_gap 3 := ⟨⟨wT816, wT339, wT815, rfl, ⟨by decide +kernel, by decide +kernel, by decide +kernel⟩⟩, wT817, wT818⟩
theorem cwSH_RL_221 : WSH RL 221 X_L_account 3 := ⟨wT820, wT618, wT819, (by decide), ⟨by decide +kernel, by decide +kernel, by decide +kernel⟩, wT821⟩
theorem cwV_RL_223 : WV RL 223 X_X8_account 1 := ⟨⟨wT823, wT339, wT822, rfl, ⟨by decide +kernel, by decide +kernel, by decide +kernel⟩⟩, wT824, wT825⟩
theorem cwSH_RL_224 : WSH RL 224 X_L_share 2 := ⟨wT827, wT618, wT826, (by decide), ⟨by decide +kernel, by decide +kernel, by decide +kernel⟩, wT828⟩
theorem cwV_RL_227 : WV RL 227 X_X8_share 0 := ⟨⟨wT830, wT339, wT829, rfl, ⟨by decide +kernel, by decide +kernel, by decide +kernel⟩⟩, wT831, wT832⟩
theorem cwSH_RL_228 : WSH RL 228 X_L_undo 2 := ⟨wT834, wT618, wT833, (by decide), ⟨by decide +kernel, by decide +kernel, by decide +kernel⟩, wT835⟩
theorem cwV_RL_230 : WV RL 230 X_X8_undo 0 := ⟨⟨wT837, wT339, wT836, rfl, ⟨by decide +kernel, by decide +kernel, by decide +kernel⟩⟩, wT838, wT839⟩
theorem cwV_RL_231 : WV RL 231 X_X7_save 0 := ⟨⟨wT841, wT57, wT840, rfl, ⟨by decide +kernel, by decide +kernel, by decide +kernel⟩⟩, wT842, wT843⟩
theorem cwV_RL_234 : WV RL 234 X_X8_save 0 := ⟨⟨wT845, wT339, wT844, rfl, ⟨by decide +kernel, by decide +kernel, by decide +kernel⟩⟩, wT846, wT847⟩
theorem cwSH_RL_235 : WSH RL 235 X_L_restore 1 := ⟨wT849, wT618, wT848, (by decide), ⟨by decide +kernel, by decide +kernel, by decide +kernel⟩, wT850⟩
theorem cwV_RL_238 : WV RL 238 X_X8_restore 0 := ⟨⟨wT852, wT339, wT851, rfl, ⟨by decide +kernel, by decide +kernel, by decide +kernel⟩⟩, wT853, wT854⟩
def B_L_law_192 (k28 : Int32 → Mem → Option Int32) (fl : Nat) (xs : Nat → Int32) (Ln : Nat) (v5 : Int32) (s : Mem) : Option Int32 :=
  gd (inR (v5 + (1 : Int32)) Ln) <|
  gd (inR (v5 + (2 : Int32)) Ln) <|
  gd (inR (v5 + (3 : Int32)) Ln) <|
  gd (inR (v5 + (4 : Int32)) Ln) <|
  bd (F_L_addPitch fl 320 (xs (v5 + (1 : Int32)).toNatClampNeg) (xs (v5 + (2 : Int32)).toNatClampNeg) (xs (v5 + (3 : Int32)).toNatClampNeg) (xs (v5 + (4 : Int32)).toNatClampNeg) 350 s) fun q5 =>
  gd (inR (v5 + (1 : Int32)) Ln) <|
  gd (inR (v5 + (2 : Int32)) Ln) <|
  gd (inR (v5 + (3 : Int32)) Ln) <|
  gd (inR (v5 + (4 : Int32)) Ln) <|
  bd (F_X8_addPitch fl 340 (xs (v5 + (1 : Int32)).toNatClampNeg) (xs (v5 + (2 : Int32)).toNatClampNeg) (xs (v5 + (3 : Int32)).toNatClampNeg) (xs (v5 + (4 : Int32)).toNatClampNeg) q5.2) fun q11 =>
  bd (F_X8_thrown fl 340 q11.2) fun q13 =>
  if q13 = q5.1 then (
    if q5.1 = 0 then (
      if (lg_cmp (gL q11.2 350 (0 : Int32).toNatClampNeg) (Int32.toInt64 q11.1)) = 0 then (
        k28 (v5 + (7 : Int32)) q11.2)
      else
      some (0 : Int32))
    else
    k28 (v5 + (7 : Int32)) q11.2)
  else
  some (0 : Int32)
def B_L_law_284 (k28 : Int32 → Mem → Option Int32) (fl : Nat) (xs : Nat → Int32) (Ln : Nat) (v5 : Int32) (s : Mem) : Option Int32 :=
  gd (inR (v5 + (1 : Int32)) Ln) <|
  gd (inR (v5 + (2 : Int32)) Ln) <|
  bd (F_L_pitch fl 320 (xs (v5 + (1 : Int32)).toNatClampNeg) (xs (v5 + (2 : Int32)).toNatClampNeg) 350 s) fun q20 =>
  gd (inR (v5 + (1 : Int32)) Ln) <|
  gd (inR (v5 + (2 : Int32)) Ln) <|
  bd (F_X8_pitch fl 340 (xs (v5 + (1 : Int32)).toNatClampNeg) (xs (v5 + (2 : Int32)).toNatClampNeg) q20.2) fun q24 =>
  bd (F_X8_thrown fl 340 q24.2) fun q26 =>
  if q26 = q20.1 then (
    if q20.1 = 0 then (
      if (lg_cmp (gL q24.2 350 (0 : Int32).toNatClampNeg) (Int32.toInt64 q24.1)) = 0 then (
        k28 (v5 + (7 : Int32)) q24.2)
      else
      some (0 : Int32))
    else
    k28 (v5 + (7 : Int32)) q24.2)
  else
  some (0 : Int32)
def B_L_law_352 (k28 : Int32 → Mem → Option Int32) (fl : Nat) (xs : Nat → Int32) (Ln : Nat) (v5 : Int32) (s : Mem) : Option Int32 :=
  gd (inR (v5 + (1 : Int32)) Ln) <|
  gd (inR (v5 + (2 : Int32)) Ln) <|
  bd (F_L_setLimit fl 320 (xs (v5 + (1 : Int32)).toNatClampNeg) (xs (v5 + (2 : Int32)).toNatClampNeg) 350 s) fun q33 =>
  gd (inR (v5 + (1 : Int32)) Ln) <|
  gd (inR (v5 + (2 : Int32)) Ln) <|
  bd (F_X8_setLimit fl 340 (xs (v5 + (1 : Int32)).toNatClampNeg) (xs (v5 + (2 : Int32)).toNatClampNeg) q33.2) fun q37 =>
  bd (F_X8_thrown fl 340 q37.2) fun q39 =>
  if q39 = q33.1 then (
    if q33.1 = 0 then (
      if (lg_cmp (gL q37.2 350 (0 : Int32).toNatClampNeg) (Int32.toInt64 q37.1)) = 0 then (
        k28 (v5 + (7 : Int32)) q37.2)
      else
      some (0 : Int32))
    else
    k28 (v5 + (7 : Int32)) q37.2)
  else
  some (0 : Int32)
def B_L_law_420 (k28 : Int32 → Mem → Option Int32) (fl : Nat) (xs : Nat → Int32) (Ln : Nat) (v5 : Int32) (s : Mem) : Option Int32 :=
  gd (inR (v5 + (1 : Int32)) Ln) <|
  gd (inR (v5 + (2 : Int32)) Ln) <|
  bd (F_L_setRate fl 320 (xs (v5 + (1 : Int32)).toNatClampNeg) (xs (v5 + (2 : Int32)).toNatClampNeg) 350 s) fun q46 =>
  gd (inR (v5 + (1 : Int32)) Ln) <|
  gd (inR (v5 + (2 : Int32)) Ln) <|
  bd (F_X8_setRate fl 340 (xs (v5 + (1 : Int32)).toNatClampNeg) (xs (v5 + (2 : Int32)).toNatClampNeg) q46.2) fun q50 =>
  bd (F_X8_thrown fl 340 q50.2) fun q52 =>
  if q52 = q46.1 then (
    if q46.1 = 0 then (
      if (lg_cmp (gL q50.2 350 (0 : Int32).toNatClampNeg) (Int32.toInt64 q50.1)) = 0 then (
        k28 (v5 + (7 : Int32)) q50.2)
      else
      some (0 : Int32))
    else
    k28 (v5 + (7 : Int32)) q50.2)
  else
  some (0 : Int32)
def B_L_law_488 (k28 : Int32 → Mem → Option Int32) (fl : Nat) (xs : Nat → Int32) (Ln : Nat) (v5 : Int32) (s : Mem) : Option Int32 :=
  gd (inR (v5 + (1 : Int32)) Ln) <|
  bd (F_L_setGap fl 320 (xs (v5 + (1 : Int32)).toNatClampNeg) 350 s) fun q58 =>
  gd (inR (v5 + (1 : Int32)) Ln) <|
  bd (F_X8_setGap fl 340 (xs (v5 + (1 : Int32)).toNatClampNeg) q58.2) fun q61 =>
  bd (F_X8_thrown fl 340 q61.2) fun q63 =>
  if q63 = q58.1 then (
    if q58.1 = 0 then (
      if (lg_cmp (gL q61.2 350 (0 : Int32).toNatClampNeg) (Int32.toInt64 q61.1)) = 0 then (
        k28 (v5 + (7 : Int32)) q61.2)
      else
      some (0 : Int32))
    else
    k28 (v5 + (7 : Int32)) q61.2)
  else
  some (0 : Int32)
def B_L_law_544 (k28 : Int32 → Mem → Option Int32) (fl : Nat) (xs : Nat → Int32) (Ln : Nat) (v5 : Int32) (s : Mem) : Option Int32 :=
  gd (inR (v5 + (1 : Int32)) Ln) <|
  gd (inR (v5 + (2 : Int32)) Ln) <|
  gd (inR (v5 + (3 : Int32)) Ln) <|
  bd (F_L_addSeason fl 320 (xs (v5 + (1 : Int32)).toNatClampNeg) (xs (v5 + (2 : Int32)).toNatClampNeg) (xs (v5 + (3 : Int32)).toNatClampNeg) 350 s) fun q71 =>
  gd (inR (v5 + (1 : Int32)) Ln) <|
  gd (inR (v5 + (2 : Int32)) Ln) <|
  gd (inR (v5 + (3 : Int32)) Ln) <|
  bd (F_X8_addSeason fl 340 (xs (v5 + (1 : Int32)).toNatClampNeg) (xs (v5 + (2 : Int32)).toNatClampNeg) (xs (v5 + (3 : Int32)).toNatClampNeg) q71.2) fun q76 =>
  bd (F_X8_thrown fl 340 q76.2) fun q78 =>
  if q78 = q71.1 then (
    if q71.1 = 0 then (
      if (lg_cmp (gL q76.2 350 (0 : Int32).toNatClampNeg) (Int32.toInt64 q76.1)) = 0 then (
        k28 (v5 + (7 : Int32)) q76.2)
      else
      some (0 : Int32))
    else
    k28 (v5 + (7 : Int32)) q76.2)
  else
  some (0 : Int32)
def B_L_law_624 (k28 : Int32 → Mem → Option Int32) (fl : Nat) (xs : Nat → Int32) (Ln : Nat) (v5 : Int32) (s : Mem) : Option Int32 :=
  gd (inR (v5 + (1 : Int32)) Ln) <|
  bd (F_L_dropSeason fl 320 (xs (v5 + (1 : Int32)).toNatClampNeg) 350 s) fun q84 =>
  gd (inR (v5 + (1 : Int32)) Ln) <|
  bd (F_X8_dropSeason fl 340 (xs (v5 + (1 : Int32)).toNatClampNeg) q84.2) fun q87 =>
  bd (F_X8_thrown fl 340 q87.2) fun q89 =>
  if q89 = q84.1 then (
    if q84.1 = 0 then (
      if (lg_cmp (gL q87.2 350 (0 : Int32).toNatClampNeg) (Int32.toInt64 q87.1)) = 0 then (
        k28 (v5 + (7 : Int32)) q87.2)
      else
      some (0 : Int32))
    else
    k28 (v5 + (7 : Int32)) q87.2)
  else
  some (0 : Int32)
def B_L_law_680 (k28 : Int32 → Mem → Option Int32) (fl : Nat) (xs : Nat → Int32) (Ln : Nat) (v5 : Int32) (s : Mem) : Option Int32 :=
  gd (inR (v5 + (1 : Int32)) Ln) <|
  gd (inR (v5 + (2 : Int32)) Ln) <|
  bd (F_L_season fl 320 (xs (v5 + (1 : Int32)).toNatClampNeg) (xs (v5 + (2 : Int32)).toNatClampNeg) 350 s) fun q96 =>
  gd (inR (v5 + (1 : Int32)) Ln) <|
  gd (inR (v5 + (2 : Int32)) Ln) <|
  bd (F_X8_season fl 340 (xs (v5 + (1 : Int32)).toNatClampNeg) (xs (v5 + (2 : Int32)).toNatClampNeg) q96.2) fun q100 =>
  bd (F_X8_thrown fl 340 q100.2) fun q102 =>
  if q102 = q96.1 then (
    if q96.1 = 0 then (
      if (lg_cmp (gL q100.2 350 (0 : Int32).toNatClampNeg) (Int32.toInt64 q100.1)) = 0 then (
        k28 (v5 + (7 : Int32)) q100.2)
      else
      some (0 : Int32))
    else
    k28 (v5 + (7 : Int32)) q100.2)
  else
  some (0 : Int32)
def B_L_law_748 (k28 : Int32 → Mem → Option Int32) (fl : Nat) (xs : Nat → Int32) (Ln : Nat) (v5 : Int32) (s : Mem) : Option Int32 :=
  gd (inR (v5 + (1 : Int32)) Ln) <|
  gd (inR (v5 + (2 : Int32)) Ln) <|
  bd (F_L_leastStay fl 320 (xs (v5 + (1 : Int32)).toNatClampNeg) (xs (v5 + (2 : Int32)).toNatClampNeg) 350 s) fun q109 =>
  gd (inR (v5 + (1 : Int32)) Ln) <|
  gd (inR (v5 + (2 : Int32)) Ln) <|
  bd (F_X8_leastStay fl 340 (xs (v5 + (1 : Int32)).toNatClampNeg) (xs (v5 + (2 : Int32)).toNatClampNeg) q109.2) fun q113 =>
  bd (F_X8_thrown fl 340 q113.2) fun q115 =>
  if q115 = q109.1 then (
    if q109.1 = 0 then (
      if (lg_cmp (gL q113.2 350 (0 : Int32).toNatClampNeg) (Int32.toInt64 q113.1)) = 0 then (
        k28 (v5 + (7 : Int32)) q113.2)
      else
      some (0 : Int32))
    else
    k28 (v5 + (7 : Int32)) q113.2)
  else
  some (0 : Int32)
def B_L_law_816 (k28 : Int32 → Mem → Option Int32) (fl : Nat) (xs : Nat → Int32) (Ln : Nat) (v5 : Int32) (s : Mem) : Option Int32 :=
  gd (inR (v5 + (1 : Int32)) Ln) <|
  gd (inR (v5 + (2 : Int32)) Ln) <|
  gd (inR (v5 + (3 : Int32)) Ln) <|
  gd (inR (v5 + (4 : Int32)) Ln) <|
  gd (inR (v5 + (5 : Int32)) Ln) <|
  gd (inR (v5 + (6 : Int32)) Ln) <|
  bd (F_L_book fl 320 (xs (v5 + (1 : Int32)).toNatClampNeg) (xs (v5 + (2 : Int32)).toNatClampNeg) (xs (v5 + (3 : Int32)).toNatClampNeg) (xs (v5 + (4 : Int32)).toNatClampNeg) (xs (v5 + (5 : Int32)).toNatClampNeg) (xs (v5 + (6 : Int32)).toNatClampNeg) 350 s) fun q126 =>
  gd (inR (v5 + (1 : Int32)) Ln) <|
  gd (inR (v5 + (2 : Int32)) Ln) <|
  gd (inR (v5 + (3 : Int32)) Ln) <|
  gd (inR (v5 + (4 : Int32)) Ln) <|
  gd (inR (v5 + (5 : Int32)) Ln) <|
  gd (inR (v5 + (6 : Int32)) Ln) <|
  bd (F_X8_book fl 340 (xs (v5 + (1 : Int32)).toNatClampNeg) (xs (v5 + (2 : Int32)).toNatClampNeg) (xs (v5 + (3 : Int32)).toNatClampNeg) (xs (v5 + (4 : Int32)).toNatClampNeg) (xs (v5 + (5 : Int32)).toNatClampNeg) (xs (v5 + (6 : Int32)).toNatClampNeg) q126.2) fun q134 =>
  bd (F_X8_thrown fl 340 q134.2) fun q136 =>
  if q136 = q126.1 then (
    if q126.1 = 0 then (
      if (lg_cmp (gL q134.2 350 (0 : Int32).toNatClampNeg) (Int32.toInt64 q134.1)) = 0 then (
        k28 (v5 + (7 : Int32)) q134.2)
      else
      some (0 : Int32))
    else
    k28 (v5 + (7 : Int32)) q134.2)
  else
  some (0 : Int32)
def B_L_law_934 (k28 : Int32 → Mem → Option Int32) (fl : Nat) (xs : Nat → Int32) (Ln : Nat) (v5 : Int32) (s : Mem) : Option Int32 :=
  gd (inR (v5 + (1 : Int32)) Ln) <|
  bd (F_L_append fl 320 ((Int32.toUInt32 (xs (v5 + (1 : Int32)).toNatClampNeg) % 65536).toInt32) s) fun q142 =>
  gd (inR (v5 + (1 : Int32)) Ln) <|
  bd (F_X8_append fl 340 ((Int32.toUInt32 (xs (v5 + (1 : Int32)).toNatClampNeg) % 65536).toInt32) q142.2) fun q145 =>
  bd (F_X8_thrown fl 340 q145) fun q147 =>
  if q147 = q142.1 then (
    k28 (v5 + (7 : Int32)) q145)
  else
  some (0 : Int32)
def B_L_law_972 (k28 : Int32 → Mem → Option Int32) (fl : Nat) (xs : Nat → Int32) (Ln : Nat) (v5 : Int32) (s : Mem) : Option Int32 :=
  bd (F_L_readBooking fl 320 350 s) fun q150 =>
  bd (F_X8_readBooking fl 340 q150.2) fun q152 =>
  bd (F_X8_thrown fl 340 q152.2) fun q154 =>
  if q154 = q150.1 then (
    if q150.1 = 0 then (
      if (lg_cmp (gL q152.2 350 (0 : Int32).toNatClampNeg) (Int32.toInt64 q152.1)) = 0 then (
        k28 (v5 + (7 : Int32)) q152.2)
      else
      some (0 : Int32))
    else
    k28 (v5 + (7 : Int32)) q152.2)
  else
  some (0 : Int32)
def B_L_law_1016 (k28 : Int32 → Mem → Option Int32) (fl : Nat) (xs : Nat → Int32) (Ln : Nat) (v5 : Int32) (s : Mem) : Option Int32 :=
  bd (F_X7_faultPosition fl 320 s) fun q159 =>
  bd (F_X8_faultPosition fl 340 s) fun q161 =>
  if q159 = q161.1 then (
    k28 (v5 + (7 : Int32)) q161.2)
  else
  some (0 : Int32)
def B_L_law_1029 (k28 : Int32 → Mem → Option Int32) (fl : Nat) (xs : Nat → Int32) (Ln : Nat) (v5 : Int32) (s : Mem) : Option Int32 :=
  bd (F_L_refusal fl 320 350 s) fun q164 =>
  bd (F_X8_refusal fl 340 q164.2) fun q166 =>
  bd (F_X8_thrown fl 340 q166.2) fun q168 =>
  if q168 = q164.1 then (
    if q164.1 = 0 then (
      if (lg_cmp (gL q166.2 350 (0 : Int32).toNatClampNeg) (Int32.toInt64 q166.1)) = 0 then (
        k28 (v5 + (7 : Int32)) q166.2)
      else
      some (0 : Int32))
    else
    k28 (v5 + (7 : Int32)) q166.2)
  else
  some (0 : Int32)
def B_L_law_1073 (k28 : Int32 → Mem → Option Int32) (fl : Nat) (xs : Nat → Int32) (Ln : Nat) (v5 : Int32) (s : Mem) : Option Int32 :=
  gd (inR (v5 + (1 : Int32)) Ln) <|
  gd (inR (v5 + (2 : Int32)) Ln) <|
  bd (F_L_party fl 320 (xs (v5 + (1 : Int32)).toNatClampNeg) (xs (v5 + (2 : Int32)).toNatClampNeg) 350 s) fun q175 =>
  gd (inR (v5 + (1 : Int32)) Ln) <|
  gd (inR (v5 + (2 : Int32)) Ln) <|
  bd (F_X8_party fl 340 (xs (v5 + (1 : Int32)).toNatClampNeg) (xs (v5 + (2 : Int32)).toNatClampNeg) q175.2) fun q179 =>
  bd (F_X8_thrown fl 340 q179.2) fun q181 =>
  if q181 = q175.1 then (
    if q175.1 = 0 then (
      if (lg_cmp (gL q179.2 350 (0 : Int32).toNatClampNeg) (Int32.toInt64 q179.1)) = 0 then (
        k28 (v5 + (7 : Int32)) q179.2)
      else
      some (0 : Int32))
    else
    k28 (v5 + (7 : Int32)) q179.2)
  else
  some (0 : Int32)
def B_L_law_1141 (k28 : Int32 → Mem → Option Int32) (fl : Nat) (xs : Nat → Int32) (Ln : Nat) (v5 : Int32) (s : Mem) : Option Int32 :=
  bd (F_X7_moves fl 320 s) fun q186 =>
  bd (F_X8_moves fl 340 s) fun q188 =>
  if q186 = q188.1 then (
    k28 (v5 + (7 : Int32)) q188.2)
  else
  some (0 : Int32)
def B_L_law_1154 (k28 : Int32 → Mem → Option Int32) (fl : Nat) (xs : Nat → Int32) (Ln : Nat) (v5 : Int32) (s : Mem) : Option Int32 :=
  gd (inR (v5 + (1 : Int32)) Ln) <|
  gd (inR (v5 + (2 : Int32)) Ln) <|
  bd (F_L_moveOf fl 320 (xs (v5 + (1 : Int32)).toNatClampNeg) (xs (v5 + (2 : Int32)).toNatClampNeg) 350 s) fun q193 =>
  gd (inR (v5 + (1 : Int32)) Ln) <|
  gd (inR (v5 + (2 : Int32)) Ln) <|
  bd (F_X8_moveOf fl 340 (xs (v5 + (1 : Int32)).toNatClampNeg) (xs (v5 + (2 : Int32)).toNatClampNeg) q193.2) fun q197 =>
  bd (F_X8_thrown fl 340 q197.2) fun q199 =>
  if q199 = q193.1 then (
    if q193.1 = 0 then (
      if (lg_cmp (gL q197.2 350 (0 : Int32).toNatClampNeg) (Int32.toInt64 q197.1)) = 0 then (
        k28 (v5 + (7 : Int32)) q197.2)
      else
      some (0 : Int32))
    else
    k28 (v5 + (7 : Int32)) q197.2)
  else
  some (0 : Int32)
def B_L_law_1222 (k28 : Int32 → Mem → Option Int32) (fl : Nat) (xs : Nat → Int32) (Ln : Nat) (v5 : Int32) (s : Mem) : Option Int32 :=
  gd (inR (v5 + (1 : Int32)) Ln) <|
  gd (inR (v5 + (2 : Int32)) Ln) <|
  bd (F_L_move fl 320 (xs (v5 + (1 : Int32)).toNatClampNeg) (xs (v5 + (2 : Int32)).toNatClampNeg) 350 s) fun q206 =>
  gd (inR (v5 + (1 : Int32)) Ln) <|
  gd (inR (v5 + (2 : Int32)) Ln) <|
  bd (F_X8_move fl 340 (xs (v5 + (1 : Int32)).toNatClampNeg) (xs (v5 + (2 : Int32)).toNatClampNeg) q206.2) fun q210 =>
  bd (F_X8_thrown fl 340 q210.2) fun q212 =>
  if q212 = q206.1 then (
    if q206.1 = 0 then (
      if (lg_cmp (gL q210.2 350 (0 : Int32).toNatClampNeg) (Int32.toInt64 q210.1)) = 0 then (
        k28 (v5 + (7 : Int32)) q210.2)
      else
      some (0 : Int32))
    else
    k28 (v5 + (7 : Int32)) q210.2)
  else
  some (0 : Int32)
def B_L_law_1290 (k28 : Int32 → Mem → Option Int32) (fl : Nat) (xs : Nat → Int32) (Ln : Nat) (v5 : Int32) (s : Mem) : Option Int32 :=
  gd (inR (v5 + (1 : Int32)) Ln) <|
  bd (F_L_cancel fl 320 (xs (v5 + (1 : Int32)).toNatClampNeg) 350 s) fun q218 =>
  gd (inR (v5 + (1 : Int32)) Ln) <|
  bd (F_X8_cancel fl 340 (xs (v5 + (1 : Int32)).toNatClampNeg) q218.2) fun q221 =>
  bd (F_X8_thrown fl 340 q221.2) fun q223 =>
  if q223 = q218.1 then (
    if q218.1 = 0 then (
      if (lg_cmp (gL q221.2 350 (0 : Int32).toNatClampNeg) (Int32.toInt64 q221.1)) = 0 then (
        k28 (v5 + (7 : Int32)) q221.2)
      else
      some (0 : Int32))
    else
    k28 (v5 + (7 : Int32)) q221.2)
  else
  some (0 : Int32)
def B_L_law_1346 (k28 : Int32 → Mem → Option Int32) (fl : Nat) (xs : Nat → Int32) (Ln : Nat) (v5 : Int32) (s : Mem) : Option Int32 :=
  gd (inR (v5 + (1 : Int32)) Ln) <|
  bd (F_L_advance fl 320 (xs (v5 + (1 : Int32)).toNatClampNeg) 350 s) fun q229 =>
  gd (inR (v5 + (1 : Int32)) Ln) <|
  bd (F_X8_advance fl 340 (xs (v5 + (1 : Int32)).toNatClampNeg) q229.2) fun q232 =>
  bd (F_X8_thrown fl 340 q232.2) fun q234 =>
  if q234 = q229.1 then (
    if q229.1 = 0 then (
      if (lg_cmp (gL q232.2 350 (0 : Int32).toNatClampNeg) (Int32.toInt64 q232.1)) = 0 then (
        k28 (v5 + (7 : Int32)) q232.2)
      else
      some (0 : Int32))
    else
    k28 (v5 + (7 : Int32)) q232.2)
  else
  some (0 : Int32)
def B_L_law_1402 (k28 : Int32 → Mem → Option Int32) (fl : Nat) (xs : Nat → Int32) (Ln : Nat) (v5 : Int32) (s : Mem) : Option Int32 :=
  bd (F_X7_tonight fl 320 s) fun q239 =>
  bd (F_X8_tonight fl 340 s) fun q241 =>
  if q239 = q241.1 then (
    k28 (v5 + (7 : Int32)) q241.2)
  else
  some (0 : Int32)
def B_L_law_1415 (k28 : Int32 → Mem → Option Int32) (fl : Nat) (xs : Nat → Int32) (Ln : Nat) (v5 : Int32) (s : Mem) : Option Int32 :=
  gd (inR (v5 + (1 : Int32)) Ln) <|
  gd (inR (v5 + (2 : Int32)) Ln) <|
  bd (F_L_obstacle fl 320 (xs (v5 + (1 : Int32)).toNatClampNeg) (xs (v5 + (2 : Int32)).toNatClampNeg) 350 s) fun q246 =>
  gd (inR (v5 + (1 : Int32)) Ln) <|
  gd (inR (v5 + (2 : Int32)) Ln) <|
  bd (F_X8_obstacle fl 340 (xs (v5 + (1 : Int32)).toNatClampNeg) (xs (v5 + (2 : Int32)).toNatClampNeg) q246.2) fun q250 =>
  bd (F_X8_thrown fl 340 q250.2) fun q252 =>
  if q252 = q246.1 then (
    if q246.1 = 0 then (
      if (lg_cmp (gL q250.2 350 (0 : Int32).toNatClampNeg) (Int32.toInt64 q250.1)) = 0 then (
        k28 (v5 + (7 : Int32)) q250.2)
      else
      some (0 : Int32))
    else
    k28 (v5 + (7 : Int32)) q250.2)
  else
  some (0 : Int32)
def B_L_law_1483 (k28 : Int32 → Mem → Option Int32) (fl : Nat) (xs : Nat → Int32) (Ln : Nat) (v5 : Int32) (s : Mem) : Option Int32 :=
  gd (inR (v5 + (1 : Int32)) Ln) <|
  gd (inR (v5 + (2 : Int32)) Ln) <|
  bd (F_L_occupant fl 320 (xs (v5 + (1 : Int32)).toNatClampNeg) (xs (v5 + (2 : Int32)).toNatClampNeg) 350 s) fun q259 =>
  gd (inR (v5 + (1 : Int32)) Ln) <|
  gd (inR (v5 + (2 : Int32)) Ln) <|
  bd (F_X8_occupant fl 340 (xs (v5 + (1 : Int32)).toNatClampNeg) (xs (v5 + (2 : Int32)).toNatClampNeg) q259.2) fun q263 =>
  bd (F_X8_thrown fl 340 q263.2) fun q265 =>
  if q265 = q259.1 then (
    if q259.1 = 0 then (
      if (lg_cmp (gL q263.2 350 (0 : Int32).toNatClampNeg) (Int32.toInt64 q263.1)) = 0 then (
        k28 (v5 + (7 : Int32)) q263.2)
      else
      some (0 : Int32))
    else
    k28 (v5 + (7 : Int32)) q263.2)
  else
  some (0 : Int32)
def B_L_law_1551 (k28 : Int32 → Mem → Option Int32) (fl : Nat) (xs : Nat → Int32) (Ln : Nat) (v5 : Int32) (s : Mem) : Option Int32 :=
  gd (inR (v5 + (1 : Int32)) Ln) <|
  gd (inR (v5 + (2 : Int32)) Ln) <|
  bd (F_L_busyNight fl 320 (xs (v5 + (1 : Int32)).toNatClampNeg) (xs (v5 + (2 : Int32)).toNatClampNeg) 350 s) fun q272 =>
  gd (inR (v5 + (1 : Int32)) Ln) <|
  gd (inR (v5 + (2 : Int32)) Ln) <|
  bd (F_X8_busyNight fl 340 (xs (v5 + (1 : Int32)).toNatClampNeg) (xs (v5 + (2 : Int32)).toNatClampNeg) q272.2) fun q276 =>
  bd (F_X8_thrown fl 340 q276.2) fun q278 =>
  if q278 = q272.1 then (
    if q272.1 = 0 then (
      if (lg_cmp (gL q276.2 350 (0 : Int32).toNatClampNeg) (Int32.toInt64 q276.1)) = 0 then (
        k28 (v5 + (7 : Int32)) q276.2)
      else
      some (0 : Int32))
    else
    k28 (v5 + (7 : Int32)) q276.2)
  else
  some (0 : Int32)
def B_L_law_1619 (k28 : Int32 → Mem → Option Int32) (fl : Nat) (xs : Nat → Int32) (Ln : Nat) (v5 : Int32) (s : Mem) : Option Int32 :=
  gd (inR (v5 + (1 : Int32)) Ln) <|
  gd (inR (v5 + (2 : Int32)) Ln) <|
  gd (inR (v5 + (3 : Int32)) Ln) <|
  bd (F_L_firstFree fl 320 (xs (v5 + (1 : Int32)).toNatClampNeg) (xs (v5 + (2 : Int32)).toNatClampNeg) (xs (v5 + (3 : Int32)).toNatClampNeg) 350 s) fun q286 =>
  gd (inR (v5 + (1 : Int32)) Ln) <|
  gd (inR (v5 + (2 : Int32)) Ln) <|
  gd (inR (v5 + (3 : Int32)) Ln) <|
  bd (F_X8_firstFree fl 340 (xs (v5 + (1 : Int32)).toNatClampNeg) (xs (v5 + (2 : Int32)).toNatClampNeg) (xs (v5 + (3 : Int32)).toNatClampNeg) q286.2) fun q291 =>
  bd (F_X8_thrown fl 340 q291.2) fun q293 =>
  if q293 = q286.1 then (
    if q286.1 = 0 then (
      if (lg_cmp (gL q291.2 350 (0 : Int32).toNatClampNeg) (Int32.toInt64 q291.1)) = 0 then (
        k28 (v5 + (7 : Int32)) q291.2)
      else
      some (0 : Int32))
    else
    k28 (v5 + (7 : Int32)) q291.2)
  else
  some (0 : Int32)
def B_L_law_1699 (k28 : Int32 → Mem → Option Int32) (fl : Nat) (xs : Nat → Int32) (Ln : Nat) (v5 : Int32) (s : Mem) : Option Int32 :=
  gd (inR (v5 + (1 : Int32)) Ln) <|
  gd (inR (v5 + (2 : Int32)) Ln) <|
  bd (F_L_power fl 320 (xs (v5 + (1 : Int32)).toNatClampNeg) (xs (v5 + (2 : Int32)).toNatClampNeg) 350 s) fun q300 =>
  gd (inR (v5 + (1 : Int32)) Ln) <|
  gd (inR (v5 + (2 : Int32)) Ln) <|
  bd (F_X8_power fl 340 (xs (v5 + (1 : Int32)).toNatClampNeg) (xs (v5 + (2 : Int32)).toNatClampNeg) q300.2) fun q304 =>
  bd (F_X8_thrown fl 340 q304.2) fun q306 =>
  if q306 = q300.1 then (
    if q300.1 = 0 then (
      if (lg_cmp (gL q304.2 350 (0 : Int32).toNatClampNeg) (Int32.toInt64 q304.1)) = 0 then (
        k28 (v5 + (7 : Int32)) q304.2)
      else
      some (0 : Int32))
    else
    k28 (v5 + (7 : Int32)) q304.2)
  else
  some (0 : Int32)
def B_L_law_1767 (k28 : Int32 → Mem → Option Int32) (fl : Nat) (xs : Nat → Int32) (Ln : Nat) (v5 : Int32) (s : Mem) : Option Int32 :=
  gd (inR (v5 + (1 : Int32)) Ln) <|
  bd (F_L_peak fl 320 (xs (v5 + (1 : Int32)).toNatClampNeg) 350 s) fun q312 =>
  gd (inR (v5 + (1 : Int32)) Ln) <|
  bd (F_X8_peak fl 340 (xs (v5 + (1 : Int32)).toNatClampNeg) q312.2) fun q315 =>
  bd (F_X8_thrown fl 340 q315.2) fun q317 =>
  if q317 = q312.1 then (
    if q312.1 = 0 then (
      if (lg_cmp (gL q315.2 350 (0 : Int32).toNatClampNeg) (Int32.toInt64 q315.1)) = 0 then (
        k28 (v5 + (7 : Int32)) q315.2)
      else
      some (0 : Int32))
    else
    k28 (v5 + (7 : Int32)) q315.2)
  else
  some (0 : Int32)
def B_L_law_1823 (k28 : Int32 → Mem → Option Int32) (fl : Nat) (xs : Nat → Int32) (Ln : Nat) (v5 : Int32) (s : Mem) : Option Int32 :=
  gd (inR (v5 + (1 : Int32)) Ln) <|
  gd (inR (v5 + (2 : Int32)) Ln) <|
  gd (inR (v5 + (3 : Int32)) Ln) <|
  if (xs (v5 + (3 : Int32)).toNatClampNeg) = 0 then (
    bd (F_L_gap fl 320 (xs (v5 + (1 : Int32)).toNatClampNeg) (xs (v5 + (2 : Int32)).toNatClampNeg) (0 : Int32) 350 s) fun q326 =>
    gd (inR (v5 + (1 : Int32)) Ln) <|
    gd (inR (v5 + (2 : Int32)) Ln) <|
    gd (inR (v5 + (3 : Int32)) Ln) <|
    if (xs (v5 + (3 : Int32)).toNatClampNeg) = 0 then (
      bd (F_X8_gap fl 340 (xs (v5 + (1 : Int32)).toNatClampNeg) (xs (v5 + (2 : Int32)).toNatClampNeg) (0 : Int32) q326.2) fun q332 =>
      bd (F_X8_thrown fl 340 q332.2) fun q334 =>
      if q334 = q326.1 then (
        if q326.1 = 0 then (
          if (lg_cmp (gL q332.2 350 (0 : Int32).toNatClampNeg) (Int32.toInt64 q332.1)) = 0 then (
            k28 (v5 + (7 : Int32)) q332.2)
          else
          some (0 : Int32))
        else
        k28 (v5 + (7 : Int32)) q332.2)
      else
      some (0 : Int32))
    else
    bd (F_X8_gap fl 340 (xs (v5 + (1 : Int32)).toNatClampNeg) (xs (v5 + (2 : Int32)).toNatClampNeg) (1 : Int32) q326.2) fun q339 =>
    bd (F_X8_thrown fl 340 q339.2) fun q341 =>
    if q341 = q326.1 then (
      if q326.1 = 0 then (
        if (lg_cmp (gL q339.2 350 (0 : Int32).toNatClampNeg) (Int32.toInt64 q339.1)) = 0 then (
          k28 (v5 + (7 : Int32)) q339.2)
        else
        some (0 : Int32))
      else
      k28 (v5 + (7 : Int32)) q339.2)
    else
    some (0 : Int32))
  else
  bd (F_L_gap fl 320 (xs (v5 + (1 : Int32)).toNatClampNeg) (xs (v5 + (2 : Int32)).toNatClampNeg) (1 : Int32) 350 s) fun q346 =>
  gd (inR (v5 + (1 : Int32)) Ln) <|
  gd (inR (v5 + (2 : Int32)) Ln) <|
  gd (inR (v5 + (3 : Int32)) Ln) <|
  if (xs (v5 + (3 : Int32)).toNatClampNeg) = 0 then (
    bd (F_X8_gap fl 340 (xs (v5 + (1 : Int32)).toNatClampNeg) (xs (v5 + (2 : Int32)).toNatClampNeg) (0 : Int32) q346.2) fun q352 =>
    bd (F_X8_thrown fl 340 q352.2) fun q354 =>
    if q354 = q346.1 then (
      if q346.1 = 0 then (
        if (lg_cmp (gL q352.2 350 (0 : Int32).toNatClampNeg) (Int32.toInt64 q352.1)) = 0 then (
          k28 (v5 + (7 : Int32)) q352.2)
        else
        some (0 : Int32))
      else
      k28 (v5 + (7 : Int32)) q352.2)
    else
    some (0 : Int32))
  else
  bd (F_X8_gap fl 340 (xs (v5 + (1 : Int32)).toNatClampNeg) (xs (v5 + (2 : Int32)).toNatClampNeg) (1 : Int32) q346.2) fun q359 =>
  bd (F_X8_thrown fl 340 q359.2) fun q361 =>
  if q361 = q346.1 then (
    if q346.1 = 0 then (
      if (lg_cmp (gL q359.2 350 (0 : Int32).toNatClampNeg) (Int32.toInt64 q359.1)) = 0 then (
        k28 (v5 + (7 : Int32)) q359.2)
      else
      some (0 : Int32))
    else
    k28 (v5 + (7 : Int32)) q359.2)
  else
  some (0 : Int32)
def B_L_law_1919 (k28 : Int32 → Mem → Option Int32) (fl : Nat) (xs : Nat → Int32) (Ln : Nat) (v5 : Int32) (s : Mem) : Option Int32 :=
  gd (inR (v5 + (1 : Int32)) Ln) <|
  bd (F_L_account fl 320 (xs (v5 + (1 : Int32)).toNatClampNeg) 350 s) fun q367 =>
  gd (inR (v5 + (1 : Int32)) Ln) <|
  bd (F_X8_account fl 340 (xs (v5 + (1 : Int32)).toNatClampNeg) q367.2) fun q370 =>
  bd (F_X8_thrown fl 340 q370.2) fun q372 =>
  if q372 = q367.1 then (
    if q367.1 = 0 then (
      if (lg_cmp (gL q370.2 350 (0 : Int32).toNatClampNeg) (Int32.toInt64 q370.1)) = 0 then (
        k28 (v5 + (7 : Int32)) q370.2)
      else
      some (0 : Int32))
    else
    k28 (v5 + (7 : Int32)) q370.2)
  else
  some (0 : Int32)
def B_L_law_1975 (k28 : Int32 → Mem → Option Int32) (fl : Nat) (xs : Nat → Int32) (Ln : Nat) (v5 : Int32) (s : Mem) : Option Int32 :=
  bd (F_L_share fl 320 351 s) fun q377 =>
  bd (F_X8_share fl 340 q377.2) fun q379 =>
  bd (F_X8_thrown fl 340 q379.2) fun q381 =>
  if q381 = q377.1 then (
    if q377.1 = 0 then (
      if (Op.cmpValue (FP.dcmp (gD q379.2 351 (0 : Int32).toNatClampNeg) q379.1) CmpOp.l) = 0 then (
        k28 (v5 + (7 : Int32)) q379.2)
      else
      if (Op.cmpValue (FP.dcmp (gD q379.2 351 (0 : Int32).toNatClampNeg) (gD q379.2 351 (0 : Int32).toNatClampNeg)) CmpOp.l) = 0 then (
        some (0 : Int32))
      else
      if (Op.cmpValue (FP.dcmp q379.1 q379.1) CmpOp.l) = 0 then (
        some (0 : Int32))
      else
      k28 (v5 + (7 : Int32)) q379.2)
    else
    k28 (v5 + (7 : Int32)) q379.2)
  else
  some (0 : Int32)
def B_L_law_2040 (k28 : Int32 → Mem → Option Int32) (fl : Nat) (xs : Nat → Int32) (Ln : Nat) (v5 : Int32) (s : Mem) : Option Int32 :=
  bd (F_L_undo fl 320 350 s) fun q388 =>
  bd (F_X8_undo fl 340 q388.2) fun q390 =>
  bd (F_X8_thrown fl 340 q390.2) fun q392 =>
  if q392 = q388.1 then (
    if q388.1 = 0 then (
      if (lg_cmp (gL q390.2 350 (0 : Int32).toNatClampNeg) (Int32.toInt64 q390.1)) = 0 then (
        k28 (v5 + (7 : Int32)) q390.2)
      else
      some (0 : Int32))
    else
    k28 (v5 + (7 : Int32)) q390.2)
  else
  some (0 : Int32)
def B_L_law_2084 (k28 : Int32 → Mem → Option Int32) (fl : Nat) (xs : Nat → Int32) (Ln : Nat) (v5 : Int32) (s : Mem) : Option Int32 :=
  bd (F_X7_save fl 320 s) fun q397 =>
  bd (F_X8_save fl 340 q397) fun q399 =>
  k28 (v5 + (7 : Int32)) q399
def B_L_law_2095 (k28 : Int32 → Mem → Option Int32) (fl : Nat) (xs : Nat → Int32) (Ln : Nat) (v5 : Int32) (s : Mem) : Option Int32 :=
  bd (F_L_restore fl 320 s) fun q401 =>
  bd (F_X8_restore fl 340 q401.2) fun q403 =>
  bd (F_X8_thrown fl 340 q403) fun q405 =>
  if q405 = q401.1 then (
    k28 (v5 + (7 : Int32)) q403)
  else
  some (0 : Int32)
def B_L_law_step (k28 : Int32 → Mem → Option Int32) (fl : Nat) (xs : Nat → Int32) (Ln : Nat) (v5 : Int32) (s : Mem) : Option Int32 :=
  if ((nI Ln) - (7 : Int32)) < v5 then (
    some (1 : Int32))
  else
  gd (inR v5 Ln) <|
  if ((xs v5.toNatClampNeg) &&& (63 : Int32)) = 0 then (
    B_L_law_192 k28 fl xs Ln v5 s)
  else
  if ((xs v5.toNatClampNeg) &&& (63 : Int32)) = 1 then (
    B_L_law_284 k28 fl xs Ln v5 s)
  else
  if ((xs v5.toNatClampNeg) &&& (63 : Int32)) = 2 then (
    B_L_law_352 k28 fl xs Ln v5 s)
  else
  if ((xs v5.toNatClampNeg) &&& (63 : Int32)) = 3 then (
    B_L_law_420 k28 fl xs Ln v5 s)
  else
  if ((xs v5.toNatClampNeg) &&& (63 : Int32)) = 4 then (
    B_L_law_488 k28 fl xs Ln v5 s)
  else
  if ((xs v5.toNatClampNeg) &&& (63 : Int32)) = 5 then (
    B_L_law_544 k28 fl xs Ln v5 s)
  else
  if ((xs v5.toNatClampNeg) &&& (63 : Int32)) = 6 then (
    B_L_law_624 k28 fl xs Ln v5 s)
  else
  if ((xs v5.toNatClampNeg) &&& (63 : Int32)) = 7 then (
    B_L_law_680 k28 fl xs Ln v5 s)
  else
  if ((xs v5.toNatClampNeg) &&& (63 : Int32)) = 8 then (
    B_L_law_748 k28 fl xs Ln v5 s)
  else
  if ((xs v5.toNatClampNeg) &&& (63 : Int32)) = 9 then (
    B_L_law_816 k28 fl xs Ln v5 s)
  else
  if ((xs v5.toNatClampNeg) &&& (63 : Int32)) = 10 then (
    B_L_law_934 k28 fl xs Ln v5 s)
  else
  if ((xs v5.toNatClampNeg) &&& (63 : Int32)) = 11 then (
    B_L_law_972 k28 fl xs Ln v5 s)
  else
  if ((xs v5.toNatClampNeg) &&& (63 : Int32)) = 12 then (
    B_L_law_1016 k28 fl xs Ln v5 s)
  else
  if ((xs v5.toNatClampNeg) &&& (63 : Int32)) = 13 then (
    B_L_law_1029 k28 fl xs Ln v5 s)
  else
  if ((xs v5.toNatClampNeg) &&& (63 : Int32)) = 14 then (
    B_L_law_1073 k28 fl xs Ln v5 s)
  else
  if ((xs v5.toNatClampNeg) &&& (63 : Int32)) = 15 then (
    B_L_law_1141 k28 fl xs Ln v5 s)
  else
  if ((xs v5.toNatClampNeg) &&& (63 : Int32)) = 16 then (
    B_L_law_1154 k28 fl xs Ln v5 s)
  else
  if ((xs v5.toNatClampNeg) &&& (63 : Int32)) = 17 then (
    B_L_law_1222 k28 fl xs Ln v5 s)
  else
  if ((xs v5.toNatClampNeg) &&& (63 : Int32)) = 18 then (
    B_L_law_1290 k28 fl xs Ln v5 s)
  else
  if ((xs v5.toNatClampNeg) &&& (63 : Int32)) = 19 then (
    B_L_law_1346 k28 fl xs Ln v5 s)
  else
  if ((xs v5.toNatClampNeg) &&& (63 : Int32)) = 20 then (
    B_L_law_1402 k28 fl xs Ln v5 s)
  else
  if ((xs v5.toNatClampNeg) &&& (63 : Int32)) = 21 then (
    B_L_law_1415 k28 fl xs Ln v5 s)
  else
  if ((xs v5.toNatClampNeg) &&& (63 : Int32)) = 22 then (
    B_L_law_1483 k28 fl xs Ln v5 s)
  else
  if ((xs v5.toNatClampNeg) &&& (63 : Int32)) = 23 then (
    B_L_law_1551 k28 fl xs Ln v5 s)
  else
  if ((xs v5.toNatClampNeg) &&& (63 : Int32)) = 24 then (
    B_L_law_1619 k28 fl xs Ln v5 s)
  else
  if ((xs v5.toNatClampNeg) &&& (63 : Int32)) = 25 then (
    B_L_law_1699 k28 fl xs Ln v5 s)
  else
  if ((xs v5.toNatClampNeg) &&& (63 : Int32)) = 26 then (
    B_L_law_1767 k28 fl xs Ln v5 s)
  else
  if ((xs v5.toNatClampNeg) &&& (63 : Int32)) = 27 then (
    B_L_law_1823 k28 fl xs Ln v5 s)
  else
  if ((xs v5.toNatClampNeg) &&& (63 : Int32)) = 28 then (
    B_L_law_1919 k28 fl xs Ln v5 s)
  else
  if ((xs v5.toNatClampNeg) &&& (63 : Int32)) = 29 then (
    B_L_law_1975 k28 fl xs Ln v5 s)
  else
  if ((xs v5.toNatClampNeg) &&& (63 : Int32)) = 30 then (
    B_L_law_2040 k28 fl xs Ln v5 s)
  else
  if ((xs v5.toNatClampNeg) &&& (63 : Int32)) = 31 then (
    B_L_law_2084 k28 fl xs Ln v5 s)
  else
  if ((xs v5.toNatClampNeg) &&& (63 : Int32)) = 32 then (
    B_L_law_2095 k28 fl xs Ln v5 s)
  else
  k28 (v5 + (7 : Int32)) s
def B_L_law (fl : Nat) (xs : Nat → Int32) (Ln : Nat) : Nat → Int32 → Mem → Option Int32
  | 0 => fun _ _ => none
  | n + 1 => fun v5 s => B_L_law_step (B_L_law fl xs Ln n) fl xs Ln v5 s
