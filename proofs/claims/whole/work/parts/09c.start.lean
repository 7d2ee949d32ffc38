theorem flat_mem {args : Array Value} {s : State} (hgv : (Jvm.Cond.and given_1 narrow_1).before args s = true) {w : Cond} (h : w ∈ flatC (Jvm.Cond.and given_1 narrow_1)) : w.before args s = true := flat_of_before _ hgv w h
def narL : List Cond := flatC (Jvm.Cond.and given_1 narrow_1)
theorem STRL_tab : ∀ q ∈ STRL, Cond.stringRef q.1 q.2.1 q.2.2 ∈ lw_tbl := by decide +kernel
theorem STRL_nar : ∀ q ∈ STRL, Cond.exactly (.string q.1 q.2.1) "java/lang/String" ∈ narL := by decide +kernel
theorem NCL_nar : ∀ q ∈ NCL, Cond.not (.castable q.1 q.2) ∈ narL := by decide +kernel
theorem ref_nar : Cond.isRef (.static Bundle.tN "UNASSIGNED_STACK" Bundle.steD) ∈ narL ∧ Cond.isRef (.static Bundle.tN "SUPPRESSED_SENTINEL" Bundle.listD) ∈ narL := by decide +kernel
theorem thr_tab : Cond.laysStatic Bundle.tN "UNASSIGNED_STACK" Bundle.steD ∈ lw_tbl ∧ Cond.laysStatic Bundle.tN "SUPPRESSED_SENTINEL" Bundle.listD ∈ lw_tbl ∧ Cond.initialized Bundle.tN ∈ lw_tbl := by decide +kernel
theorem arr_tab : Cond.arrayClass .int ∈ lw_tbl ∧ Cond.arrayClass .long ∈ lw_tbl ∧ Cond.arrayClass .char ∈ lw_tbl ∧ Cond.arrayClass .double ∈ lw_tbl ∧ ∀ C ∈ AOL, Cond.arrayOver (.object C) ∈ lw_tbl := by decide +kernel
theorem cls_tab0 : (∀ w ∈ u_ws RJ0 TJ0 2, w ∈ lw_tbl) ∧ Cond.instantiable RJ0 4 ∈ lw_tbl := by decide +kernel
theorem cls_tab1 : (∀ w ∈ u_ws RJx00060 TJx00060 6, w ∈ lw_tbl) ∧ Cond.instantiable RJx00060 6 ∈ lw_tbl := by decide +kernel
theorem cls_tab2 : (∀ w ∈ u_ws RX0 TX0 6, w ∈ lw_tbl) ∧ Cond.instantiable RX0 6 ∈ lw_tbl := by decide +kernel
theorem cls_tab3 : (∀ w ∈ u_ws RX1 TX1 9, w ∈ lw_tbl) ∧ Cond.instantiable RX1 9 ∈ lw_tbl := by decide +kernel
theorem cls_tab4 : (∀ w ∈ u_ws RX2 TX2 3, w ∈ lw_tbl) ∧ Cond.instantiable RX2 3 ∈ lw_tbl := by decide +kernel
theorem cls_tab5 : (∀ w ∈ u_ws RX3 TX3 11, w ∈ lw_tbl) ∧ Cond.instantiable RX3 11 ∈ lw_tbl := by decide +kernel
theorem cls_tab6 : (∀ w ∈ u_ws RX4 TX4 5, w ∈ lw_tbl) ∧ Cond.instantiable RX4 5 ∈ lw_tbl := by decide +kernel
theorem cls_tab7 : (∀ w ∈ u_ws RX5 TX5 14, w ∈ lw_tbl) ∧ Cond.instantiable RX5 14 ∈ lw_tbl := by decide +kernel
theorem cls_tab8 : (∀ w ∈ u_ws RX6 TX6 3, w ∈ lw_tbl) ∧ Cond.instantiable RX6 3 ∈ lw_tbl := by decide +kernel
theorem cls_tab9 : (∀ w ∈ u_ws RX7 TX7 9, w ∈ lw_tbl) ∧ Cond.instantiable RX7 9 ∈ lw_tbl := by decide +kernel
theorem cls_tab10 : (∀ w ∈ u_ws RX8 TX8 22, w ∈ lw_tbl) ∧ Cond.instantiable RX8 22 ∈ lw_tbl := by decide +kernel
theorem EV_start {args : Array Value} {s : State} (hts : ∀ w ∈ lw_tbl, w.before args s = true) (hgv : (Jvm.Cond.and given_1 narrow_1).before args s = true) : ∃ (D : va_G) (aC : Nat → ClassId), EV s.heap.size D aC s s.heap := by
  obtain ⟨c0, i0, k0⟩ := u_known (C := RJ0) (T := TJ0) (N := 2) hts cls_tab0.1 (hts _ cls_tab0.2)
  obtain ⟨c1, i1, k1⟩ := u_known (C := RJx00060) (T := TJx00060) (N := 6) hts cls_tab1.1 (hts _ cls_tab1.2)
  obtain ⟨c2, i2, k2⟩ := u_known (C := RX0) (T := TX0) (N := 6) hts cls_tab2.1 (hts _ cls_tab2.2)
  obtain ⟨c3, i3, k3⟩ := u_known (C := RX1) (T := TX1) (N := 9) hts cls_tab3.1 (hts _ cls_tab3.2)
  obtain ⟨c4, i4, k4⟩ := u_known (C := RX2) (T := TX2) (N := 3) hts cls_tab4.1 (hts _ cls_tab4.2)
  obtain ⟨c5, i5, k5⟩ := u_known (C := RX3) (T := TX3) (N := 11) hts cls_tab5.1 (hts _ cls_tab5.2)
  obtain ⟨c6, i6, k6⟩ := u_known (C := RX4) (T := TX4) (N := 5) hts cls_tab6.1 (hts _ cls_tab6.2)
  obtain ⟨c7, i7, k7⟩ := u_known (C := RX5) (T := TX5) (N := 14) hts cls_tab7.1 (hts _ cls_tab7.2)
  obtain ⟨c8, i8, k8⟩ := u_known (C := RX6) (T := TX6) (N := 3) hts cls_tab8.1 (hts _ cls_tab8.2)
  obtain ⟨c9, i9, k9⟩ := u_known (C := RX7) (T := TX7) (N := 9) hts cls_tab9.1 (hts _ cls_tab9.2)
  obtain ⟨c10, i10, k10⟩ := u_known (C := RX8) (T := TX8) (N := 22) hts cls_tab10.1 (hts _ cls_tab10.2)
  obtain ⟨a0, x0, y0, p0, q0, r0⟩ := Cond.arrayClass_spec (hts _ arr_tab.1)
  obtain ⟨a1, x1, y1, p1, q1, r1⟩ := Cond.arrayClass_spec (hts _ arr_tab.2.1)
  obtain ⟨a2, x2, y2, p2, q2, r2⟩ := Cond.arrayClass_spec (hts _ arr_tab.2.2.1)
  obtain ⟨a3, x3, y3, p3, q3, r3⟩ := Cond.arrayClass_spec (hts _ arr_tab.2.2.2.1)
  obtain ⟨y4, a4, x4, t4, -, q4, r4, p4⟩ := Cond.arrayOver_spec (hts _ (arr_tab.2.2.2.2 RX4 (by decide)))
  obtain ⟨y5, a5, x5, t5, -, q5, r5, p5⟩ := Cond.arrayOver_spec (hts _ (arr_tab.2.2.2.2 RX3 (by decide)))
  obtain ⟨y6, a6, x6, t6, -, q6, r6, p6⟩ := Cond.arrayOver_spec (hts _ (arr_tab.2.2.2.2 RX6 (by decide)))
  obtain ⟨y7, a7, x7, t7, -, q7, r7, p7⟩ := Cond.arrayOver_spec (hts _ (arr_tab.2.2.2.2 RX1 (by decide)))
  refine ⟨(fun k => if k = 0 then c0 else if k = 1 then c1 else if k = 2 then c2 else if k = 3 then c3 else if k = 4 then c4 else if k = 5 then c5 else if k = 6 then c6 else if k = 7 then c7 else if k = 8 then c8 else if k = 9 then c9 else c10, fun k => if k = 0 then i0 else if k = 1 then i1 else if k = 2 then i2 else if k = 3 then i3 else if k = 4 then i4 else if k = 5 then i5 else if k = 6 then i6 else if k = 7 then i7 else if k = 8 then i8 else if k = 9 then i9 else i10), fun t => if t = 0 then a0 else if t = 1 then a1 else if t = 2 then a2 else if t = 3 then a3 else if t = 4 then a4 else if t = 5 then a5 else if t = 6 then a6 else a7, ⟨?_, ?_⟩, ?_, ?_, ?_, ?_, ?_, ?_⟩
  · intro k q hq
    match k, hq with
      | 0, hq => cases hq; exact k0
      | 1, hq => cases hq; exact k1
      | 2, hq => cases hq; exact k2
      | 3, hq => cases hq; exact k3
      | 4, hq => cases hq; exact k4
      | 5, hq => cases hq; exact k5
      | 6, hq => cases hq; exact k6
      | 7, hq => cases hq; exact k7
      | 8, hq => cases hq; exact k8
      | 9, hq => cases hq; exact k9
      | 10, hq => cases hq; exact k10
      | k + 11, hq => simp [vwCl] at hq
  · intro k q hq
    match k, hq with
      | 0, hq => cases hq; exact ⟨fun n z => ⟨fun k h => (by cases h), x0, q0, y0, r0⟩, p0⟩
      | 1, hq => cases hq; exact ⟨fun n z => ⟨fun k h => (by cases h), x1, q1, y1, r1⟩, p1⟩
      | 2, hq => cases hq; exact ⟨fun n z => ⟨fun k h => (by cases h), x2, q2, y2, r2⟩, p2⟩
      | 3, hq => cases hq; exact ⟨fun n z => ⟨fun k h => (by cases h), x3, q3, y3, r3⟩, p3⟩
      | 4, hq => cases hq; exact ⟨fun n z => ⟨fun k h => (by cases h), x4, q4, y4, r4⟩, x4, y4, q4, r4, t4, p4⟩
      | 5, hq => cases hq; exact ⟨fun n z => ⟨fun k h => (by cases h), x5, q5, y5, r5⟩, x5, y5, q5, r5, t5, p5⟩
      | 6, hq => cases hq; exact ⟨fun n z => ⟨fun k h => (by cases h), x6, q6, y6, r6⟩, x6, y6, q6, r6, t6, p6⟩
      | 7, hq => cases hq; exact ⟨fun n z => ⟨fun k h => (by cases h), x7, q7, y7, r7⟩, x7, y7, q7, r7, t7, p7⟩
      | k + 8, hq => simp [tysA] at hq
  · exact fun w hw => va_Nw.of (nw_tab (List.mem_filter.mp hw).2) (hts w (List.mem_filter.mp hw).1)
  · intro q hq
    obtain ⟨a, _, _, _, ha, -⟩ := Cond.exactly_spec (flat_mem hgv (STRL_nar q hq))
    exact ⟨a, vk_R.of (hts _ (STRL_tab q hq)) ha⟩
  · exact vx_Zqof (hts _ thr_tab.1) (hts _ thr_tab.2.2) (flat_mem hgv ref_nar.1) (fun a ha => Nat.not_le.mpr ha)
  · exact vx_Zqof (hts _ thr_tab.2.1) (hts _ thr_tab.2.2) (flat_mem hgv ref_nar.2) (fun a ha => Nat.not_le.mpr ha)
  · exact fun q hq => va_Nc.of (flat_mem hgv (NCL_nar q hq))
  · exact fun C hC => va_AO.of (hts _ (arr_tab.2.2.2.2 C hC))
