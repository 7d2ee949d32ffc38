section ER4
variable {l : Launch} {X Y : MX} {r : Rs} {fa : Bool} {n n' : Nat} {σ σ' : Mem} {kc ks pc : Nat} {L : List (Nat × Value)} {S As : List Value} {v : Option Value}
theorem E_throwN {ex ik is9 ic ix : Nat} {rx : ByteArray} {text : String} (x0 : decode rx 0 = .ok (.aload_n 0, 1)) (x1 : decode rx 1 = .ok (.aload_n 1, 1)) (x2 : decode rx 2 = .ok (.invokespecial ix, 3)) (x5 : decode rx 5 = .ok (.return_, 1)) (hk1 : xK X = 1) (hH : xH X = []) (hr : r = (.inl ex, n, σ)) (hwk : Cond.classLink (xY X).cls ik (exN ex) ∈ TBL) (hwi : Cond.initialized (exN ex) ∈ TBL) (hs9 : ((xY X).cls, is9, text) ∈ STRL) (hat : ∀ w ∈ ns_at (xY X).cls ic (exN ex) ix rx exUp, w ∈ TBL ∨ w ∈ NWL) (hgd : ∀ w ∈ ns_at (xY X).cls ic (exN ex) ix rx exUp, vx_ot w = true) (hcf : Bundle.fit (exN ex) = true) (hRf : 8 ≤ (xR X).frames ∧ 100 ≤ (xR X).locals) (hS8 : (S.map fun v => v.category).sum ≤ 8) (d0 : decode (xC X) pc = .ok (.new ik, 3)) (d3 : decode (xC X) (pc + 3) = .ok (.dup, 1)) (d4 : decode (xC X) (pc + 4) = .ok (.ldc is9, 2)) (d6 : decode (xC X) (pc + 6) = .ok (.invokespecial ic, 3)) (d9 : decode (xC X) (pc + 9) = .ok (.athrow, 1)) : E l X r false n σ (kc + 1) (ks + 6) pc L S := by
  intro p e s m args below meth c base b D aC H locs cells slots ls hF hP hS hz hl hc hs
  have hts := hF.2.2.2.2.2.1
  obtain ⟨sa, hstr⟩ := hF.2.2.2.2.2.2.2.2.2.2.2.1.2.2.1 _ hs9
  unfold QQ
  rw [if_neg (by rw [hk1]; decide), if_pos hk1]
  refine ns_throw (names := exUp) x0 x1 x2 x5 hF.1 hF.2.1 hF.2.2.2.2.2.2.2.2.1 hF.2.2.2.2.1 hcf (fun nm h => by simp only [exUp, List.mem_cons, List.not_mem_nil, or_false] at h; rcases h with rfl | rfl <;> decide +kernel) (hts _ hwk) (hts _ hwi) hstr (fun w hw => (hat w hw).elim (hts w) (fun h => va_Nw.use (nw_tab (List.mem_filter.mp h).2) (hF.2.2.2.2.2.2.2.2.2.2.2.1.2.1 w h))) (fun w hw => ?_) hF.2.2.2.2.2.2.2.2.2.2.2.1.2.2.2.1 hF.2.2.2.2.2.2.2.2.2.2.2.1.2.2.2.2.1 hS (by rw [hF.2.2.1]; exact hl.1) d0 d3 d4 d6 d9 (fun x hx => ?_) (by show 2 + 3 < _; omega) ?_ (by omega) (by omega) hF.2.2.2.2.2.2.1 (fun t hA hsz hq => ⟨ex, by rw [hr], rfl, by rw [hr]; exact hP.kept (fun k x hx => hq x.1 ((hP k x hx).lt)), ⟨Nat.le_trans hS.1 hsz, fun q h1 h2 => (hq q (Nat.lt_of_lt_of_le h1 hS.1)).trans (hS.2.1 q h1 h2)⟩⟩) hS.2.2 (by omega) (by omega)
  · rcases List.mem_cons.mp hw with rfl | hw
    · rfl
    · rcases List.mem_cons.mp hw with rfl | hw
      · rfl
      · exact hgd w hw
  · rw [hF.2.2.2.2.2.2.2.2.2.1, hH] at hx
    cases hx
  · have h9 := cvS_sum (base := base) (b := b) S
    unfold cvS at h9
    show _ + (13 * (2 + 1) + 43) ≤ _
    unfold cvS
    omega
theorem E_throwNW {ex ik is9 ic ix : Nat} {rx : ByteArray} {text : String} (x0 : decode rx 0 = .ok (.aload_n 0, 1)) (x1 : decode rx 1 = .ok (.aload_n 1, 1)) (x2 : decode rx 2 = .ok (.invokespecial ix, 3)) (x5 : decode rx 5 = .ok (.return_, 1)) (hk1 : xK X = 1) (hH : xH X = []) (hr : r = (.inl ex, n, σ)) (hwk : Cond.classLink (xY X).cls ik (exN ex) ∈ TBL) (hwi : Cond.initialized (exN ex) ∈ TBL) (hs9 : ((xY X).cls, is9, text) ∈ STRL) (hat : ∀ w ∈ ns_at (xY X).cls ic (exN ex) ix rx exUp, w ∈ TBL ∨ w ∈ NWL) (hgd : ∀ w ∈ ns_at (xY X).cls ic (exN ex) ix rx exUp, vx_ot w = true) (hcf : Bundle.fit (exN ex) = true) (hRf : 8 ≤ (xR X).frames ∧ 100 ≤ (xR X).locals) (hS8 : (S.map fun v => v.category).sum ≤ 8) (d0 : decode (xC X) pc = .ok (.new ik, 3)) (d3 : decode (xC X) (pc + 3) = .ok (.dup, 1)) (d4 : decode (xC X) (pc + 4) = .ok (.ldc_w is9, 3)) (d6 : decode (xC X) (pc + 7) = .ok (.invokespecial ic, 3)) (d9 : decode (xC X) (pc + 10) = .ok (.athrow, 1)) : E l X r false n σ (kc + 1) (ks + 6) pc L S := by
  intro p e s m args below meth c base b D aC H locs cells slots ls hF hP hS hz hl hc hs
  have hts := hF.2.2.2.2.2.1
  obtain ⟨sa, hstr⟩ := hF.2.2.2.2.2.2.2.2.2.2.2.1.2.2.1 _ hs9
  unfold QQ
  rw [if_neg (by rw [hk1]; decide), if_pos hk1]
  refine ns_throwW (names := exUp) x0 x1 x2 x5 hF.1 hF.2.1 hF.2.2.2.2.2.2.2.2.1 hF.2.2.2.2.1 hcf (fun nm h => by simp only [exUp, List.mem_cons, List.not_mem_nil, or_false] at h; rcases h with rfl | rfl <;> decide +kernel) (hts _ hwk) (hts _ hwi) hstr (fun w hw => (hat w hw).elim (hts w) (fun h => va_Nw.use (nw_tab (List.mem_filter.mp h).2) (hF.2.2.2.2.2.2.2.2.2.2.2.1.2.1 w h))) (fun w hw => ?_) hF.2.2.2.2.2.2.2.2.2.2.2.1.2.2.2.1 hF.2.2.2.2.2.2.2.2.2.2.2.1.2.2.2.2.1 hS (by rw [hF.2.2.1]; exact hl.1) d0 d3 d4 d6 d9 (fun x hx => ?_) (by show 2 + 3 < _; omega) ?_ (by omega) (by omega) hF.2.2.2.2.2.2.1 (fun t hA hsz hq => ⟨ex, by rw [hr], rfl, by rw [hr]; exact hP.kept (fun k x hx => hq x.1 ((hP k x hx).lt)), ⟨Nat.le_trans hS.1 hsz, fun q h1 h2 => (hq q (Nat.lt_of_lt_of_le h1 hS.1)).trans (hS.2.1 q h1 h2)⟩⟩) hS.2.2 (by omega) (by omega)
  · rcases List.mem_cons.mp hw with rfl | hw
    · rfl
    · rcases List.mem_cons.mp hw with rfl | hw
      · rfl
      · exact hgd w hw
  · rw [hF.2.2.2.2.2.2.2.2.2.1, hH] at hx
    cases hx
  · have h9 := cvS_sum (base := base) (b := b) S
    unfold cvS at h9
    show _ + (13 * (2 + 1) + 43) ≤ _
    unfold cvS
    omega
theorem met_of_EF {args : List Value} (hk : xK X = 0) (hH : xH X = []) (hpl : plainFor (xY X) = true) (hfl : l.stackTraces = false) (hsc : xS X = none) (hlen : (lg_sl args).length ≤ xL X) (hE : E l X r fa n σ (xR X).cells (xR X).slots 0 (lv_args 0 args) []) : MetN l X fa n σ args r := by
  intro base b D aC
  refine va_MetF (cc := xC X) (maxL := xL X) (ret := xT X) hpl (xW_code hH) ?_
  intro p e s m args' below meth c s₁ B hml hv
  obtain ⟨rfl, hv1, hv2, hv3, hv4⟩ := hv
  have hpre : ∀ w ∈ xW X, w.before _ s = true := atoms_spec (ws := xW X) B.pre
  have htab : c.exceptionTable.toList = [] := by
    obtain ⟨meth9, c9, h1, h2, -, -, -, -, h7, -⟩ := Cond.code_spec B.named (hpre _ (by rw [xW_code hH]; exact List.mem_cons_self))
    cases Option.some.inj (h1.symm.trans B.method)
    cases Option.some.inj (h2.symm.trans (Stand.of_body B).code)
    exact Array.isEmpty_iff.mp h7 ▸ rfl
  have h9 := hE p e s m (cvS base b args).toArray below meth c base b D aC s.heap [] 0 0 _ ⟨B.exec, B.bytes, hml, B.returns, findClass_of_methodNamed B.named, fun w hw => hpre w (by rw [xW_code hH]; exact List.mem_cons_of_mem _ hw), B.notSynchronized, hv1, hfl, by rw [htab, hH]; rfl, (name_of_methodNamed B.named B.method).1, hv3, by rw [hsc]; trivial⟩ hv2 va_S.rf hv4 (by rw [← lv_args_cv]; exact lv_entry (cvS base b args) (by rw [lg_sl_cv]; exact hlen)) (by omega) (by omega)
  unfold QQ at h9
  rw [if_pos hk] at h9
  rw [lg_entry_eq]
  exact h9
end ER4
