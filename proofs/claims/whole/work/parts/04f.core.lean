section ER4
variable {l : Launch} {X Y : MX} {r : Rs} {fa : Bool} {n n' : Nat} {σ σ' : Mem} {kc ks pc : Nat} {L : List (Nat × Value)} {S As : List Value} {v : Option Value}
theorem E_throwN {ex ik is9 ic ix : Nat} {rx : ByteArray} {text : String} (x0 : decode rx 0 = .ok (.aload_n 0, 1)) (x1 : decode rx 1 = .ok (.aload_n 1, 1)) (x2 : decode rx 2 = .ok (.invokespecial ix, 3)) (x5 : decode rx 5 = .ok (.return_, 1)) (hk1 : xK X = 1) (hH : xH X = []) (hr : r = (.inl ex, n, σ)) (hwk : Cond.classLink (xY X).cls ik (exN ex) ∈ TBL) (hwi : Cond.initialized (exN ex) ∈ TBL) (hs9 : ((xY X).cls, is9, text) ∈ STRL) (hat : ∀ w ∈ ns_at (xY X).cls ic (exN ex) ix rx exUp, w ∈ TBL ∨ w ∈ NWL) (hgd : ∀ w ∈ ns_at (xY X).cls ic (exN ex) ix rx exUp, vx_ot w = true) (hcf : Bundle.fit (exN ex) = true) (hRf : 8 ≤ (xR X).frames ∧ 100 ≤ (xR X).locals) (hS8 : (S.map fun v => v.category).sum ≤ 8) (d0 : decode (xC X) pc = .ok (.new ik, 3)) (d3 : decode (xC X) (pc + 3) = .ok (.dup, 1)) (d4 : decode (xC X) (pc + 4) = .ok (.ldc is9, 2)) (d6 : decode (xC X) (pc + 6) = .ok (.invokespecial ic, 3)) (d9 : decode (xC X) (pc + 9) = .ok (.athrow, 1)) : E l X r false n σ (kc + 1) (ks + 6) pc L S := by
  intro p e s m args below meth c base b D aC H locs cells slots ls hF hP hS hz hl hc hs
  have hts := hF.2.2.2.2.2.1
  obtain ⟨sa, hstr⟩ := hF.2.2.2.2.2.2.2.2.2.2.2.1.2.2.1 _ hs9
  unfold QQ
  rw [if_neg (by rw [hk1]; decide), if_pos hk1]
  refine ns_throw (names := exUp) x0 x1 x2 x5 hF.1 hF.2.1 hF.2.2.2.2.2.2.2.2.1 hF.2.2.2.2.1 hcf (fun nm h => by simp only [exUp, List.mem_cons, List.not_mem_nil, or_false] at h; rcases h with rfl | rfl <;> decide +kernel) (hts _ hwk) (hts _ hwi) hstr (fun w hw => (hat w hw).elim (hts w) (fun h => va_Nw.use (nw_tab (List.mem_filter.mp h).2) (hF.2.2.2.2.2.2.2.2.2.2.2.1.2.1 w h))) (fun w hw => ?_) hF.2.2.2.2.2.2.2.2.2.2.2.1.2.2.2.1 hF.2.2.2.2.2.2.2.2.2.2.2.1.2.2.2.2.1 hS (by rw [hF.2.2.1]; exact hl.1) d0 d3 d4 d6 d9 (fun x hx => ?_) (by show 2 + 3 < _; omega) ?_ (by omega) (by omega) hF.2.2.2.2.2.2.1 (fun t hA hsz hq => ⟨ex, by rw [hr], rfl, by rw [hr]; exact hP.kept (fun k x hx => hq x.1 ((hP k x hx).lt)), ⟨Nat.le_trans hS.1 hsz, fun q h1 h2 => (hq q (Nat.lt_of_lt_of_le h1 hS.1)).trans (hS.2.1 q h1 h2)⟩⟩) hS.2.2 (by omega) (by omega)
  · rcases List.mem_cons.mp hw with rfl | hw
    · rfl
    · rcases List.mem_cons.mp hw with rfl | hw
      · rfl
      · exact hgd w hw
  · rw [hF.2.2.2.2.2.2.2.2.2.1, hH] at hx
    cases hx
  · have h9 := cvS_sum (base := base) (b := b) S
    unfold cvS at h9
    show _ + (13 * (2 + 1) + 43) ≤ _
    unfold cvS
    omega
theorem E_throwNW {ex ik is9 ic ix : Nat} {rx : ByteArray} {text : String} (x0 : decode rx 0 = .ok (.aload_n 0, 1)) (x1 : decode rx 1 = .ok (.aload_n 1, 1)) (x2 : decode rx 2 = .ok (.invokespecial ix, 3)) (x5 : decode rx 5 = .ok (.return_, 1)) (hk1 : xK X = 1) (hH : xH X = []) (hr : r = (.inl ex, n, σ)) (hwk : Cond.classLink (xY X).cls ik (exN ex) ∈ TBL) (hwi : Cond.initialized (exN ex) ∈ TBL) (hs9 : ((xY X).cls, is9, text) ∈ STRL) (hat : ∀ w ∈ ns_at (xY X).cls ic (exN ex) ix rx exUp, w ∈ TBL ∨ w ∈ NWL) (hgd : ∀ w ∈ ns_at (xY X).cls ic (exN ex) ix rx exUp, vx_ot w = true) (hcf : Bundle.fit (exN ex) = true) (hRf : 8 ≤ (xR X).frames ∧ 100 ≤ (xR X).locals) (hS8 : (S.map fun v => v.category).sum ≤ 8) (d0 : decode (xC X) pc = .ok (.new ik, 3)) (d3 : decode (xC X) (pc + 3) = .ok (.dup, 1)) (d4 : decode (xC X) (pc + 4) = .ok (.ldc_w is9, 3)) (d6 : decode (xC X) (pc + 7) = .ok (.invokespecial ic, 3)) (d9 : decode (xC X) (pc + 10) = .ok (.athrow, 1)) : E l X r false n σ (kc + 1) (ks + 6) pc L S := by
  intro p e s m args below meth c base b D aC H locs cells slots ls hF hP hS hz hl hc hs
  have hts := hF.2.2.2.2.2.1
  obtain ⟨sa, hstr⟩ := hF.2.2.2.2.2.2.2.2.2.2.2.1.2.2.1 _ hs9
  unfold QQ
  rw [if_neg (by rw [hk1]; decide), if_pos hk1]
  refine ns_throwW (names := exUp) x0 x1 x2 x5 hF.1 hF.2.1 hF.2.2.2.2.2.2.2.2.1 hF.2.2.2.2.1 hcf (fun nm h => by simp only [exUp, List.mem_cons, List.not_mem_nil, or_false] at h; rcases h with rfl | rfl <;> decide +kernel) (hts _ hwk) (hts _ hwi) hstr (fun w hw => (hat w hw).elim (hts w) (fun h => va_Nw.use (nw_tab (List.mem_filter.mp h).2) (hF.2.2.2.2.2.2.2.2.2.2.2.1.2.1 w h))) (fun w hw => ?_) hF.2.2.2.2.2.2.2.2.2.2.2.1.2.2.2.1 hF.2.2.2.2.2.2.2.2.2.2.2.1.2.2.2.2.1 hS (by rw [hF.2.2.1]; exact hl.1) d0 d3 d4 d6 d9 (fun x hx => ?_) (by show 2 + 3 < _; omega) ?_ (by omega) (by omega) hF.2.2.2.2.2.2.1 (fun t hA hsz hq => ⟨ex, by rw [hr], rfl, by rw [hr]; exact hP.kept (fun k x hx => hq x.1 ((hP k x hx).lt)), ⟨Nat.le_trans hS.1 hsz, fun q h1 h2 => (hq q (Nat.lt_of_lt_of_le h1 hS.1)).trans (hS.2.1 q h1 h2)⟩⟩) hS.2.2 (by omega) (by omega)
  · rcases List.mem_cons.mp hw with rfl | hw
    · rfl
    · rcases List.mem_cons.mp hw with rfl | hw
      · rfl
      · exact hgd w hw
  · rw [hF.2.2.2.2.2.2.2.2.2.1, hH] at hx
    cases hx
  · have h9 := cvS_sum (base := base) (b := b) S
    unfold cvS at h9
    show _ + (13 * (2 + 1) + 43) ≤ _
    unfold cvS
    omega
end ER4
