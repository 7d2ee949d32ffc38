section ER3
variable {l : Launch} {X Y : MX} {r : Rs} {fa : Bool} {n n' : Nat} {σ σ' : Mem} {kc ks pc : Nat} {L : List (Nat × Value)} {S As : List Value} {v : Option Value}
-- what a call asks of the tables
def WB (own : String) (idx : Nat) (Y : MX) (na : Nat) : Prop := Cond.methodLink own idx (xY Y) ∈ TBL ∧ Cond.initialized (xY Y).cls ∈ TBL ∧ Cond.code (xY Y) (xC Y) (xL Y) (xT Y) ∈ TBL ∧ xH Y = [] ∧ ((xY Y).cls ≠ "java/lang/invoke/MethodHandle" ∧ (xY Y).cls ≠ "java/lang/invoke/VarHandle" ∧ (parseMethodDescriptor (xY Y).desc).map (fun d => d.parameters.length) = some na)
def WV (own : String) (idx : Nat) (Y : MX) (na : Nat) : Prop := WB own idx Y na ∧ Cond.instanceMethod (xY Y) ∈ TBL ∧ Cond.selects (xY Y).cls (xY Y) (xY Y) ∈ TBL
def WS (own : String) (idx : Nat) (Y : MX) (na : Nat) : Prop := WB own idx Y na ∧ Cond.static (xY Y) ∈ TBL
def WI (own : String) (idx : Nat) (Y : MX) (na : Nat) : Prop := WB own idx Y na ∧ Cond.instanceMethod (xY Y) ∈ TBL ∧ (xY Y).name = "<init>" ∧ xT Y = none
def WN (own : String) (idx : Nat) (Y : MX) (na : Nat) (host : String) : Prop := Cond.methodLinkNest own idx (xY Y) host ∈ NWL ∧ Cond.initialized (xY Y).cls ∈ TBL ∧ Cond.code (xY Y) (xC Y) (xL Y) (xT Y) ∈ TBL ∧ xH Y = [] ∧ ((xY Y).cls ≠ "java/lang/invoke/MethodHandle" ∧ (xY Y).cls ≠ "java/lang/invoke/VarHandle" ∧ (parseMethodDescriptor (xY Y).desc).map (fun d => d.parameters.length) = some na)
def WNS (own : String) (idx : Nat) (Y : MX) (na : Nat) (host : String) : Prop := WN own idx Y na host ∧ Cond.static (xY Y) ∈ TBL
def WNI (own : String) (idx : Nat) (Y : MX) (na : Nat) (host : String) : Prop := WN own idx Y na host ∧ Cond.instanceMethod (xY Y) ∈ TBL ∧ (xY Y).name = "<init>" ∧ xT Y = none
def WSH (own : String) (idx : Nat) (Y : MX) (na : Nat) : Prop := Cond.methodLink own idx (xY Y) ∈ TBL ∧ Cond.initialized (xY Y).cls ∈ TBL ∧ Cond.codeWith (xY Y) (xC Y) (xL Y) (xT Y) (xH Y) ∈ TBL ∧ xH Y ≠ [] ∧ ((xY Y).cls ≠ "java/lang/invoke/MethodHandle" ∧ (xY Y).cls ≠ "java/lang/invoke/VarHandle" ∧ (parseMethodDescriptor (xY Y).desc).map (fun d => d.parameters.length) = some na) ∧ Cond.static (xY Y) ∈ TBL
def RM (X Y : MX) : Prop := (xR Y).frames + 1 ≤ (xR X).frames ∧ 8 + (xL Y + 11) + (xR Y).locals ≤ (xR X).locals
theorem xW_code (h : xH Y = []) : xW Y = Cond.code (xY Y) (xC Y) (xL Y) (xT Y) :: TBL := by unfold xW; rw [if_pos h]
theorem xW_codeH (h : xH Y ≠ []) : xW Y = Cond.codeWith (xY Y) (xC Y) (xL Y) (xT Y) (xH Y) :: TBL := by unfold xW; rw [if_neg h]
theorem callB_E {R : Room} {s : State} {args : Array Value} {own : String} {idx na : Nat} (hts : ∀ w ∈ TBL, w.before args s = true) (h : WB own idx Y na) (hR : (xR Y).frames + 1 ≤ R.frames ∧ 8 + (xL Y + 11) + (xR Y).locals ≤ R.locals) : CallB R s args own idx (xY Y) (xC Y) (xL Y) (xT Y) (xW Y) (xR Y) (xR Y).cells (xR Y).slots na := by
  obtain ⟨h1, h2, h3, h4, h5⟩ := h
  exact callB_of na hts (by rw [xW_code h4]; exact TBL_cons h3) (xW_code h4) rfl rfl (hts _ h2) (hts _ h1) h5 hR
theorem callN_E {R : Room} {s : State} {args : Array Value} {own host : String} {idx na : Nat} (hts : ∀ w ∈ TBL, w.before args s = true) (hnw : ∀ w ∈ NWL, va_Nw w s) (h : WN own idx Y na host) (hR : (xR Y).frames + 1 ≤ R.frames ∧ 8 + (xL Y + 11) + (xR Y).locals ≤ R.locals) : va_CN R s args own idx (xY Y) host (xC Y) (xL Y) (xT Y) (xW Y) (xR Y) (xR Y).cells (xR Y).slots na := by
  obtain ⟨h1, h2, h3, h4, h5⟩ := h
  exact va_cnB na hts (by rw [xW_code h4]; exact TBL_cons h3) (xW_code h4) rfl rfl (hnw _ h1) (hts _ h2) h5 hR
theorem cvS_app {base b : Nat} (A B : List Value) : cvS base b (A ++ B) = cvS base b A ++ cvS base b B := List.map_append
theorem cvS_rev {base b : Nat} (A : List Value) : cvS base b A.reverse = (cvS base b A).reverse := List.map_reverse
theorem cvS_len {base b : Nat} (A : List Value) : (cvS base b A).length = A.length := List.length_map ..
theorem F_0 {p : Program} {s : State} {m : MethodId} {args : Array Value} {meth : Method} {c : Code} {base b : Nat} {D : va_G} {aC : Nat → ClassId} {H : Heap} {locs : List Loc} (hF : FX l X p s m args meth c base b D aC) (hP : va_P D vwCl (Wd base b aC n σ) H) (hS : va_S (fr base) s.heap H locs) (hz : fa = true → H.size = base + n) : ∀ U : State, U.heap = H → s.WarmedH U.vm → BU base b D aC fa n σ U := fun U hU hW => ⟨Nat.le_trans hF.2.2.2.2.2.2.2.1 (by rw [hU]; exact hS.1), by rw [hU]; exact hP, EV.warm hW hF.2.2.2.2.2.2.2.2.2.2.2.1 (by rw [hU]; exact hS.2.1), by rw [hU]; exact hz⟩
theorem go_run {p : Program} {e : Env} {R : Room} {s : State} {m : MethodId} {args : Array Value} {below : List Frame} {meth : Method} {c : Code} {base b : Nat} {D : va_G} {aC : Nat → ClassId} {H : Heap} {locs : List Loc} {cells slots mc ms : Nat} {ls : Array Slot} {st0 rest : List Value} {Q : State → Prop} {a : Array Value}
    (hr : va_Run p l e R s m args below meth c H locs cells slots mc ms (F0 m pc ls st0) rest (QE base b D aC fa (.inr v, n', σ') a) (fr base)) (hS : va_S (fr base) s.heap H locs)
    (kk : ∀ (H1 : Heap) (locs1 : List Loc), va_P D vwCl (Wd base b aC n' σ') H1 → va_S (fr base) s.heap H1 locs1 → (fa = true → H1.size = base + n') → W p l e R s m args below meth c H1 locs1 (cells + mc) (slots + ms) Q (F0 m (pc + 3) ls ((v.map (cv base b)).toList ++ rest))) : W p l e R s m args below meth c H locs cells slots Q (F0 m pc ls st0) := by
  intro T hT X
  obtain ⟨v1, st₀, t, T', L, h0, X', hL, e1, e2, ⟨w, hw, hv, hp, hsz, hF⟩, st⟩ := hr T hT X
  cases hw
  cases hv
  obtain ⟨k1, k2, k3⟩ := vx_keep h0 e1 hS (fun q _ h => h) (fun q h => h) hL hF
  obtain ⟨t2, a1, b1⟩ := kk T'.heap (locs ++ L) (by rw [e1]; exact hp) k3 (fun q => by rw [e1]; exact hsz q) T' rfl X'
  exact ⟨t2, st t2 a1, b1⟩
theorem go_runX {p : Program} {e : Env} {R : Room} {s : State} {m : MethodId} {args : Array Value} {below : List Frame} {meth : Method} {c : Code} {base b : Nat} {D : va_G} {aC : Nat → ClassId} {H : Heap} {locs : List Loc} {cells slots mc ms : Nat} {ls : Array Slot} {st0 rest : List Value} {Q : State → Prop} {a : Array Value}
    (hr : vx_Run p l e R s m args below meth c H locs cells slots mc ms (F0 m pc ls st0) rest (QE base b D aC false (.inr v, n', σ') a) (XE base b D aC (.inr v, n', σ')) (fr base)) (hS : va_S (fr base) s.heap H locs)
    (kk : ∀ (H1 : Heap) (locs1 : List Loc), va_P D vwCl (Wd base b aC n' σ') H1 → va_S (fr base) s.heap H1 locs1 → W p l e R s m args below meth c H1 locs1 (cells + mc) (slots + ms) Q (F0 m (pc + 3) ls ((v.map (cv base b)).toList ++ rest))) : W p l e R s m args below meth c H locs cells slots Q (F0 m pc ls st0) := by
  intro T hT X
  rcases hr T hT X with ⟨v1, st₀, t, T', L, h0, X', hL, e1, e2, ⟨w, hw, hv, hp, hsz, hF⟩, st⟩ | ⟨q, st₀, t, T', L, E, ce, h0, X', hL, e1, e2, ⟨x, hx, -⟩, -⟩
  · cases hw
    cases hv
    obtain ⟨k1, k2, k3⟩ := vx_keep h0 e1 hS (fun q _ h => h) (fun q h => h) hL hF
    obtain ⟨t2, a1, b1⟩ := kk T'.heap (locs ++ L) (by rw [e1]; exact hp) k3 T' rfl X'
    exact ⟨t2, st t2 a1, b1⟩
  · cases hx
theorem go_runT {p : Program} {e : Env} {R : Room} {s : State} {m : MethodId} {args : Array Value} {below : List Frame} {meth : Method} {c : Code} {base b ex : Nat} {D : va_G} {aC : Nat → ClassId} {H : Heap} {locs : List Loc} {cells slots mc ms : Nat} {ls : Array Slot} {st0 rest : List Value} {Q : State → Prop} {a : Array Value}
    (hr : vx_Run p l e R s m args below meth c H locs cells slots mc ms (F0 m pc ls st0) rest (QE base b D aC false (.inl ex, n', σ') a) (XE base b D aC (.inl ex, n', σ')) (fr base)) (hS : va_S (fr base) s.heap H locs)
    (kx : ∀ (ce : Cell) (q9 : Addr) (H1 : Heap) (locs1 : List Loc), va_P D vwCl (Wd base b aC n' σ') H1 → va_S (fr base) s.heap H1 locs1 → H1[q9]? = some ce → ce.vm = .none → s.vm.findClass (exN ex) = some ce.cls → vx_W p l e R s m args below meth c H1 locs1 (cells + mc) (slots + ms) Q (F0 m pc ls rest) q9) : W p l e R s m args below meth c H locs cells slots Q (F0 m pc ls st0) := by
  intro T hT X
  rcases hr T hT X with ⟨v1, st₀, t, T', L, h0, X', hL, e1, e2, ⟨w, hw, -⟩, st⟩ | ⟨q, st₀, t, T', L, E, ce, h0, X', hL, e1, e2, ⟨x, hx, hE, hp, hF⟩, hce, hcv, hcl, st⟩
  · cases hw
  · cases hx
    subst hE
    obtain ⟨k1, k2, k3⟩ := vx_keep h0 e1 hS (fun q _ h => h) (fun q h => h) hL hF
    obtain ⟨t2, a1, b1⟩ := kx ce q T'.heap (locs ++ L) (by rw [e1]; exact hp) k3 (by rw [e1]; exact hce) hcv hcl T' rfl X'
    exact ⟨t2, st.trans a1, b1⟩
theorem E_callV {idx na : Nat} {S0 S' : List Value} {ci bk : Nat} {q9 : vw_C} (hcl : vwCl[ci]? = some q9) (hC : q9.1 = (xY Y).cls) (hsh : shape bk = some (.inl ci)) (hk : ordK bk < n) (hw : WV (xY X).cls idx Y na) (hR : RM X Y) (hM : MetN l Y fa n σ (.ref bk :: As) (.inr v, n', σ')) (hst : S0 = As.reverse ++ .ref bk :: S) (hna : As.length = na) (hS' : S' = v.toList ++ S) (hS8 : (S.map fun v => v.category).sum ≤ 8) (hd : decode (xC X) pc = .ok (.invokevirtual idx, 3)) (k : E l X r fa n' σ' kc ks (pc + 3) L S') : E l X r fa n σ (kc + (xR Y).cells) (ks + (xR Y).slots) pc L S0 := by
  intro p e s m args below meth c base b D aC H locs cells slots ls hF hP hS hz hl hc hs
  have hg := Wd_get (base := base) (b := b) (aC := aC) (σ := σ) hsh hk
  rw [cellE_o hsh] at hg
  have hrc := va_recv hF.2.2.2.2.2.2.2.2.2.2.2.1.1 hP hcl hg
  rw [hC] at hrc
  refine go_run (va_runV (As := cvS base b As) (rest := cvS base b S) ⟨hF.1, hF.2.1, hF.2.2.1, hF.2.2.2.2.1, hF.2.2.2.2.2.1⟩ (hM base b D aC) ⟨callB_E hF.2.2.2.2.2.1 hw.1 hR, hF.2.2.2.2.2.1 _ hw.2.1, hF.2.2.2.2.2.1 _ hw.2.2⟩ ⟨BU_blind, hrc, fun U hU hW => ⟨rfl, F_0 hF hP hS hz U hU hW⟩⟩ rfl ((cvS_len As).trans hna) hl.1 (by show cvS base b S0 = _; rw [hst, cvS_app, cvS_rev]; rfl) (lv_room (by show ((cvS base b S).map _).sum ≤ 8; rw [cvS_sum]; exact hS8)) hd ⟨by omega, by omega⟩) hS (fun H1 locs1 hP1 hS1 hz1 => ?_)
  have k9 := k p e s m args below meth c base b D aC H1 locs1 (cells + (xR Y).cells) (slots + (xR Y).slots) ls hF hP1 hS1 hz1 hl (by omega) (by omega)
  have e9 : cvS base b S' = (v.map (cv base b)).toList ++ cvS base b S := by rw [hS', cvS_app]; cases v <;> rfl
  rw [e9] at k9
  exact k9
theorem E_callS {idx na : Nat} {S0 S' : List Value} (hw : WS (xY X).cls idx Y na) (hR : RM X Y) (hM : MetN l Y fa n σ As (.inr v, n', σ')) (hst : S0 = As.reverse ++ S) (hna : As.length = na) (hS' : S' = v.toList ++ S) (hS8 : (S.map fun v => v.category).sum ≤ 8) (hd : decode (xC X) pc = .ok (.invokestatic idx, 3)) (k : E l X r fa n' σ' kc ks (pc + 3) L S') : E l X r fa n σ (kc + (xR Y).cells) (ks + (xR Y).slots) pc L S0 := by
  intro p e s m args below meth c base b D aC H locs cells slots ls hF hP hS hz hl hc hs
  refine go_run (va_runS (As := cvS base b As) (rest := cvS base b S) ⟨hF.1, hF.2.1, hF.2.2.1, hF.2.2.2.2.1, hF.2.2.2.2.2.1⟩ (hM base b D aC) ⟨callB_E hF.2.2.2.2.2.1 hw.1 hR, hF.2.2.2.2.2.1 _ hw.2⟩ ⟨BU_blind, fun U hU hW => ⟨rfl, F_0 hF hP hS hz U hU hW⟩⟩ rfl ((cvS_len As).trans hna) hl.1 (by show cvS base b S0 = _; rw [hst, cvS_app, cvS_rev]) (lv_room (by show ((cvS base b S).map _).sum ≤ 8; rw [cvS_sum]; exact hS8)) hd ⟨by omega, by omega⟩) hS (fun H1 locs1 hP1 hS1 hz1 => ?_)
  have k9 := k p e s m args below meth c base b D aC H1 locs1 (cells + (xR Y).cells) (slots + (xR Y).slots) ls hF hP1 hS1 hz1 hl (by omega) (by omega)
  have e9 : cvS base b S' = (v.map (cv base b)).toList ++ cvS base b S := by rw [hS', cvS_app]; cases v <;> rfl
  rw [e9] at k9
  exact k9
theorem E_callSN {idx na : Nat} {S0 S' : List Value} {host : String} (hw : WNS (xY X).cls idx Y na host) (hR : RM X Y) (hM : MetN l Y fa n σ As (.inr v, n', σ')) (hst : S0 = As.reverse ++ S) (hna : As.length = na) (hS' : S' = v.toList ++ S) (hS8 : (S.map fun v => v.category).sum ≤ 8) (hd : decode (xC X) pc = .ok (.invokestatic idx, 3)) (k : E l X r fa n' σ' kc ks (pc + 3) L S') : E l X r fa n σ (kc + (xR Y).cells) (ks + (xR Y).slots) pc L S0 := by
  intro p e s m args below meth c base b D aC H locs cells slots ls hF hP hS hz hl hc hs
  refine go_run (va_runSN (As := cvS base b As) (rest := cvS base b S) ⟨hF.1, hF.2.1, hF.2.2.1, hF.2.2.2.2.1, hF.2.2.2.2.2.1⟩ (hM base b D aC) ⟨callN_E hF.2.2.2.2.2.1 hF.2.2.2.2.2.2.2.2.2.2.2.1.2.1 hw.1 hR, hF.2.2.2.2.2.1 _ hw.2, trivial⟩ ⟨BU_blind, fun U hU hW => ⟨rfl, F_0 hF hP hS hz U hU hW⟩⟩ rfl ((cvS_len As).trans hna) hl.1 (by show cvS base b S0 = _; rw [hst, cvS_app, cvS_rev]) (lv_room (by show ((cvS base b S).map _).sum ≤ 8; rw [cvS_sum]; exact hS8)) hd ⟨by omega, by omega⟩) hS (fun H1 locs1 hP1 hS1 hz1 => ?_)
  have k9 := k p e s m args below meth c base b D aC H1 locs1 (cells + (xR Y).cells) (slots + (xR Y).slots) ls hF hP1 hS1 hz1 hl (by omega) (by omega)
  have e9 : cvS base b S' = (v.map (cv base b)).toList ++ cvS base b S := by rw [hS', cvS_app]; cases v <;> rfl
  rw [e9] at k9
  exact k9
theorem E_callI {idx na : Nat} {S0 S' : List Value} {bk : Nat} (hw : WI (xY X).cls idx Y na) (hR : RM X Y) (hM : MetN l Y fa n σ (.ref bk :: As) (.inr v, n', σ')) (hst : S0 = As.reverse ++ .ref bk :: S) (hna : As.length = na) (hS' : S' = v.toList ++ S) (hS8 : (S.map fun v => v.category).sum ≤ 8) (hd : decode (xC X) pc = .ok (.invokespecial idx, 3)) (k : E l X r fa n' σ' kc ks (pc + 3) L S') : E l X r fa n σ (kc + (xR Y).cells) (ks + (xR Y).slots) pc L S0 := by
  intro p e s m args below meth c base b D aC H locs cells slots ls hF hP hS hz hl hc hs
  refine go_run (va_runI (As := cvS base b As) (rest := cvS base b S) ⟨hF.1, hF.2.1, hF.2.2.1, hF.2.2.2.2.1, hF.2.2.2.2.2.1⟩ (hM base b D aC) ⟨by have h9 := callB_E (R := xR X) hF.2.2.2.2.2.1 hw.1 hR; rwa [hw.2.2.2] at h9, hw.2.2.1, hF.2.2.2.2.2.1 _ hw.2.1⟩ ⟨BU_blind, fun U hU hW => ⟨rfl, F_0 hF hP hS hz U hU hW⟩⟩ rfl ((cvS_len As).trans hna) hl.1 (by show cvS base b S0 = _; rw [hst, cvS_app, cvS_rev]; rfl) (lv_room (by show ((cvS base b S).map _).sum ≤ 8; rw [cvS_sum]; exact hS8)) hd ⟨by omega, by omega⟩) hS (fun H1 locs1 hP1 hS1 hz1 => ?_)
  have k9 := k p e s m args below meth c base b D aC H1 locs1 (cells + (xR Y).cells) (slots + (xR Y).slots) ls hF hP1 hS1 hz1 hl (by omega) (by omega)
  have e9 : cvS base b S' = (v.map (cv base b)).toList ++ cvS base b S := by rw [hS', cvS_app]; cases v <;> rfl
  rw [e9] at k9
  exact k9
theorem E_callIN {idx na : Nat} {S0 S' : List Value} {bk : Nat} {host : String} (hw : WNI (xY X).cls idx Y na host) (hR : RM X Y) (hM : MetN l Y fa n σ (.ref bk :: As) (.inr v, n', σ')) (hst : S0 = As.reverse ++ .ref bk :: S) (hna : As.length = na) (hS' : S' = v.toList ++ S) (hS8 : (S.map fun v => v.category).sum ≤ 8) (hd : decode (xC X) pc = .ok (.invokespecial idx, 3)) (k : E l X r fa n' σ' kc ks (pc + 3) L S') : E l X r fa n σ (kc + (xR Y).cells) (ks + (xR Y).slots) pc L S0 := by
  intro p e s m args below meth c base b D aC H locs cells slots ls hF hP hS hz hl hc hs
  refine go_run (va_runIN (As := cvS base b As) (rest := cvS base b S) ⟨hF.1, hF.2.1, hF.2.2.1, hF.2.2.2.2.1, hF.2.2.2.2.2.1⟩ (hM base b D aC) ⟨by have h9 := callN_E (R := xR X) hF.2.2.2.2.2.1 hF.2.2.2.2.2.2.2.2.2.2.2.1.2.1 hw.1 hR; rwa [hw.2.2.2] at h9, hw.2.2.1, hF.2.2.2.2.2.1 _ hw.2.1⟩ ⟨BU_blind, fun U hU hW => ⟨rfl, F_0 hF hP hS hz U hU hW⟩⟩ rfl ((cvS_len As).trans hna) hl.1 (by show cvS base b S0 = _; rw [hst, cvS_app, cvS_rev]; rfl) (lv_room (by show ((cvS base b S).map _).sum ≤ 8; rw [cvS_sum]; exact hS8)) hd ⟨by omega, by omega⟩) hS (fun H1 locs1 hP1 hS1 hz1 => ?_)
  have k9 := k p e s m args below meth c base b D aC H1 locs1 (cells + (xR Y).cells) (slots + (xR Y).slots) ls hF hP1 hS1 hz1 hl (by omega) (by omega)
  have e9 : cvS base b S' = (v.map (cv base b)).toList ++ cvS base b S := by rw [hS', cvS_app]; cases v <;> rfl
  rw [e9] at k9
  exact k9
theorem E_callVX {idx na : Nat} {S0 S' : List Value} {ci bk : Nat} {q9 : vw_C} (hcl : vwCl[ci]? = some q9) (hC : q9.1 = (xY Y).cls) (hsh : shape bk = some (.inl ci)) (hk : ordK bk < n) (hw : WV (xY X).cls idx Y na) (hR : RM X Y) (hM : MetX l Y n σ (.ref bk :: As) (.inr v, n', σ')) (hst : S0 = As.reverse ++ .ref bk :: S) (hna : As.length = na) (hS' : S' = v.toList ++ S) (hS8 : (S.map fun v => v.category).sum ≤ 8) (hd : decode (xC X) pc = .ok (.invokevirtual idx, 3)) (k : E l X r false n' σ' kc ks (pc + 3) L S') : E l X r false n σ (kc + (xR Y).cells) (ks + (xR Y).slots) pc L S0 := by
  intro p e s m args below meth c base b D aC H locs cells slots ls hF hP hS hz hl hc hs
  have hg := Wd_get (base := base) (b := b) (aC := aC) (σ := σ) hsh hk
  rw [cellE_o hsh] at hg
  have hrc := va_recv hF.2.2.2.2.2.2.2.2.2.2.2.1.1 hP hcl hg
  rw [hC] at hrc
  refine go_runX (vx_runV (As := cvS base b As) (rest := cvS base b S) ⟨hF.1, hF.2.1, hF.2.2.1, hF.2.2.2.2.1, hF.2.2.2.2.2.1⟩ (hM base b D aC) ⟨callB_E hF.2.2.2.2.2.1 hw.1 hR, hF.2.2.2.2.2.1 _ hw.2.1, hF.2.2.2.2.2.1 _ hw.2.2⟩ ⟨BU_blind, hrc, fun U hU hW => ⟨rfl, F_0 (fa := false) hF hP hS (fun q => nomatch q) U hU hW⟩⟩ rfl ((cvS_len As).trans hna) hl.1 (by show cvS base b S0 = _; rw [hst, cvS_app, cvS_rev]; rfl) (lv_room (by show ((cvS base b S).map _).sum ≤ 8; rw [cvS_sum]; exact hS8)) hd ⟨by omega, by omega⟩) hS (fun H1 locs1 hP1 hS1  => ?_)
  have k9 := k p e s m args below meth c base b D aC H1 locs1 (cells + (xR Y).cells) (slots + (xR Y).slots) ls hF hP1 hS1 (fun q => nomatch q) hl (by omega) (by omega)
  have e9 : cvS base b S' = (v.map (cv base b)).toList ++ cvS base b S := by rw [hS', cvS_app]; cases v <;> rfl
  rw [e9] at k9
  exact k9
theorem E_callVX_t {idx na ex : Nat} {S0 : List Value} {ci bk : Nat} {q9 : vw_C} (hcl : vwCl[ci]? = some q9) (hC : q9.1 = (xY Y).cls) (hsh : shape bk = some (.inl ci)) (hk : ordK bk < n) (hw : WV (xY X).cls idx Y na) (hk1 : xK X = 1) (hH : xH X = []) (hr : r = (.inl ex, n', σ')) (hR : RM X Y) (hM : MetX l Y n σ (.ref bk :: As) (.inl ex, n', σ')) (hst : S0 = As.reverse ++ .ref bk :: S) (hna : As.length = na) (hS8 : (S.map fun v => v.category).sum ≤ 8) (hd : decode (xC X) pc = .ok (.invokevirtual idx, 3)) : E l X r false n σ (kc + (xR Y).cells) (ks + (xR Y).slots) pc L S0 := by
  intro p e s m args below meth c base b D aC H locs cells slots ls hF hP hS hz hl hc hs
  have hg := Wd_get (base := base) (b := b) (aC := aC) (σ := σ) hsh hk
  rw [cellE_o hsh] at hg
  have hrc := va_recv hF.2.2.2.2.2.2.2.2.2.2.2.1.1 hP hcl hg
  rw [hC] at hrc
  refine go_runT (vx_runV (As := cvS base b As) (rest := cvS base b S) ⟨hF.1, hF.2.1, hF.2.2.1, hF.2.2.2.2.1, hF.2.2.2.2.2.1⟩ (hM base b D aC) ⟨callB_E hF.2.2.2.2.2.1 hw.1 hR, hF.2.2.2.2.2.1 _ hw.2.1, hF.2.2.2.2.2.1 _ hw.2.2⟩ ⟨BU_blind, hrc, fun U hU hW => ⟨rfl, F_0 (fa := false) hF hP hS (fun q => nomatch q) U hU hW⟩⟩ rfl ((cvS_len As).trans hna) hl.1 (by show cvS base b S0 = _; rw [hst, cvS_app, cvS_rev]; rfl) (lv_room (by show ((cvS base b S).map _).sum ≤ 8; rw [cvS_sum]; exact hS8)) hd ⟨by omega, by omega⟩) hS (fun ce q9 H1 locs1 hP1 hS1 hce hcv hcl => ?_)
  unfold QQ
  rw [if_neg (by rw [hk1]; decide), if_pos hk1]
  refine vx_out (fun x hx => ?_) hF.2.2.2.2.2.2.1 hce hcv hcl (fun t ht hA => ⟨ex, by rw [hr], rfl, by rw [ht, hr]; exact hP1, hS1.F ht⟩) hS1.2.2 (by omega) (by omega)
  rw [hF.2.2.2.2.2.2.2.2.2.1, hH] at hx
  cases hx
theorem E_callVX_c_n {idx na ex i9 : Nat} {S0 : List Value} {ci bk : Nat} {q9 : vw_C} (hcl : vwCl[ci]? = some q9) (hC : q9.1 = (xY Y).cls) (hsh : shape bk = some (.inl ci)) (hk : ordK bk < n) (hw : WV (xY X).cls idx Y na) (pre : List (Nat × Nat × Nat × Nat)) (x9 : Nat × Nat × Nat × Nat) (suf : List (Nat × Nat × Nat × Nat)) (hsp : xH X = pre ++ x9 :: suf) (hcov : x9.1 ≤ pc ∧ pc < x9.2.1) (hct : x9.2.2.2 ≠ 0) {name9 : String} (hlk : Cond.classLink (xY X).cls x9.2.2.2 name9 ∈ TBL) (hcast : Cond.castable (exN ex) name9 ∈ NWL) (hpass : ∀ z ∈ pre, z.2.2.2 ≠ 0 ∧ ∃ nm : String, Cond.classLink (xY X).cls z.2.2.2 nm ∈ TBL ∧ (exN ex, nm) ∈ NCL) {j9 : Fin 4} (hi9 : (j9 : Nat) = i9) (hi9n : i9 < xL X) (hR : RM X Y) (hM : MetX l Y n σ (.ref bk :: As) (.inl ex, n', σ')) (hst : S0 = As.reverse ++ .ref bk :: S) (hna : As.length = na) (hS8 : (S.map fun v => v.category).sum ≤ 8) (hd : decode (xC X) pc = .ok (.invokevirtual idx, 3)) (hd2 : decode (xC X) x9.2.2.1 = .ok (.astore_n j9, 1)) (k : E l X r false n' σ' kc ks (x9.2.2.1 + 1) (st1 i9 L) []) : E l X r false n σ (kc + (xR Y).cells) (ks + (xR Y).slots) pc L S0 := by
  intro p e s m args below meth c base b D aC H locs cells slots ls hF hP hS hz hl hc hs
  have hg := Wd_get (base := base) (b := b) (aC := aC) (σ := σ) hsh hk
  rw [cellE_o hsh] at hg
  have hrc := va_recv hF.2.2.2.2.2.2.2.2.2.2.2.1.1 hP hcl hg
  rw [hC] at hrc
  refine go_runT (vx_runV (As := cvS base b As) (rest := cvS base b S) ⟨hF.1, hF.2.1, hF.2.2.1, hF.2.2.2.2.1, hF.2.2.2.2.2.1⟩ (hM base b D aC) ⟨callB_E hF.2.2.2.2.2.1 hw.1 hR, hF.2.2.2.2.2.1 _ hw.2.1, hF.2.2.2.2.2.1 _ hw.2.2⟩ ⟨BU_blind, hrc, fun U hU hW => ⟨rfl, F_0 (fa := false) hF hP hS (fun q => nomatch q) U hU hW⟩⟩ rfl ((cvS_len As).trans hna) hl.1 (by show cvS base b S0 = _; rw [hst, cvS_app, cvS_rev]; rfl) (lv_room (by show ((cvS base b S).map _).sum ≤ 8; rw [cvS_sum]; exact hS8)) hd ⟨by omega, by omega⟩) hS (fun ce q9 H1 locs1 hP1 hS1 hce hcv hcl => ?_)
  refine vx_catch (name := name9) hF.2.2.2.2.1 (tableOf pre) ⟨x9.1, x9.2.1, x9.2.2.1, x9.2.2.2⟩ (tableOf suf) (by rw [hF.2.2.2.2.2.2.2.2.2.1, hsp]; simp [tableOf]) (fun z hz9 => ?_) (by simp [covers, hcov.1, hcov.2]) hct (hF.2.2.2.2.2.1 _ hlk) (va_Nw.use rfl (hF.2.2.2.2.2.2.2.2.2.2.2.1.2.1 _ hcast)) hce hcv hcl ?_
  · obtain ⟨z0, hz0, rfl⟩ := List.mem_map.mp hz9
    obtain ⟨p1, nm, p2, p3⟩ := hpass z0 hz0
    exact Or.inr ⟨p1, nm, hF.2.2.2.2.2.1 _ p2, hF.2.2.2.2.2.2.2.2.2.2.2.1.2.2.2.2.2.1 _ p3⟩
  · refine lv_astore_n (x := q9) (lv' := (i9, Value.ref q9) :: (cvL base b L).filter (fun q => !(q.1 == i9) && !(q.1 + 1 == i9 && q.2.category == 2))) hF.1 hF.2.1 hd2 hi9 hl hi9n rfl (fun ls' hl' => ?_)
    refine k p e s m args below meth c base b D aC H1 locs1 (cells + (xR Y).cells) (slots + (xR Y).slots) ls' hF hP1 hS1 (fun q => nomatch q) ⟨hl'.1, hl'.2.1, fun q hq => hl'.2.2 q (List.mem_cons_of_mem _ ?_)⟩ (by omega) (by omega)
    rw [cvL_filter (fun i v => by simp only [cv_cat])]
    exact hq
theorem E_callVX_c {idx na ex i9 : Nat} {S0 : List Value} {ci bk : Nat} {q9 : vw_C} (hcl : vwCl[ci]? = some q9) (hC : q9.1 = (xY Y).cls) (hsh : shape bk = some (.inl ci)) (hk : ordK bk < n) (hw : WV (xY X).cls idx Y na) (pre : List (Nat × Nat × Nat × Nat)) (x9 : Nat × Nat × Nat × Nat) (suf : List (Nat × Nat × Nat × Nat)) (hsp : xH X = pre ++ x9 :: suf) (hcov : x9.1 ≤ pc ∧ pc < x9.2.1) (hct : x9.2.2.2 ≠ 0) {name9 : String} (hlk : Cond.classLink (xY X).cls x9.2.2.2 name9 ∈ TBL) (hcast : Cond.castable (exN ex) name9 ∈ NWL) (hpass : ∀ z ∈ pre, z.2.2.2 ≠ 0 ∧ ∃ nm : String, Cond.classLink (xY X).cls z.2.2.2 nm ∈ TBL ∧ (exN ex, nm) ∈ NCL) (hi9n : i9 < xL X) (hR : RM X Y) (hM : MetX l Y n σ (.ref bk :: As) (.inl ex, n', σ')) (hst : S0 = As.reverse ++ .ref bk :: S) (hna : As.length = na) (hS8 : (S.map fun v => v.category).sum ≤ 8) (hd : decode (xC X) pc = .ok (.invokevirtual idx, 3)) (hd2 : decode (xC X) x9.2.2.1 = .ok (.astore i9, 2)) (k : E l X r false n' σ' kc ks (x9.2.2.1 + 2) (st1 i9 L) []) : E l X r false n σ (kc + (xR Y).cells) (ks + (xR Y).slots) pc L S0 := by
  intro p e s m args below meth c base b D aC H locs cells slots ls hF hP hS hz hl hc hs
  have hg := Wd_get (base := base) (b := b) (aC := aC) (σ := σ) hsh hk
  rw [cellE_o hsh] at hg
  have hrc := va_recv hF.2.2.2.2.2.2.2.2.2.2.2.1.1 hP hcl hg
  rw [hC] at hrc
  refine go_runT (vx_runV (As := cvS base b As) (rest := cvS base b S) ⟨hF.1, hF.2.1, hF.2.2.1, hF.2.2.2.2.1, hF.2.2.2.2.2.1⟩ (hM base b D aC) ⟨callB_E hF.2.2.2.2.2.1 hw.1 hR, hF.2.2.2.2.2.1 _ hw.2.1, hF.2.2.2.2.2.1 _ hw.2.2⟩ ⟨BU_blind, hrc, fun U hU hW => ⟨rfl, F_0 (fa := false) hF hP hS (fun q => nomatch q) U hU hW⟩⟩ rfl ((cvS_len As).trans hna) hl.1 (by show cvS base b S0 = _; rw [hst, cvS_app, cvS_rev]; rfl) (lv_room (by show ((cvS base b S).map _).sum ≤ 8; rw [cvS_sum]; exact hS8)) hd ⟨by omega, by omega⟩) hS (fun ce q9 H1 locs1 hP1 hS1 hce hcv hcl => ?_)
  refine vx_catch (name := name9) hF.2.2.2.2.1 (tableOf pre) ⟨x9.1, x9.2.1, x9.2.2.1, x9.2.2.2⟩ (tableOf suf) (by rw [hF.2.2.2.2.2.2.2.2.2.1, hsp]; simp [tableOf]) (fun z hz9 => ?_) (by simp [covers, hcov.1, hcov.2]) hct (hF.2.2.2.2.2.1 _ hlk) (va_Nw.use rfl (hF.2.2.2.2.2.2.2.2.2.2.2.1.2.1 _ hcast)) hce hcv hcl ?_
  · obtain ⟨z0, hz0, rfl⟩ := List.mem_map.mp hz9
    obtain ⟨p1, nm, p2, p3⟩ := hpass z0 hz0
    exact Or.inr ⟨p1, nm, hF.2.2.2.2.2.1 _ p2, hF.2.2.2.2.2.2.2.2.2.2.2.1.2.2.2.2.2.1 _ p3⟩
  · refine lv_astore (x := q9) (lv' := (i9, Value.ref q9) :: (cvL base b L).filter (fun q => !(q.1 == i9) && !(q.1 + 1 == i9 && q.2.category == 2))) hF.1 hF.2.1 hd2 hl hi9n rfl (fun ls' hl' => ?_)
    refine k p e s m args below meth c base b D aC H1 locs1 (cells + (xR Y).cells) (slots + (xR Y).slots) ls' hF hP1 hS1 (fun q => nomatch q) ⟨hl'.1, hl'.2.1, fun q hq => hl'.2.2 q (List.mem_cons_of_mem _ ?_)⟩ (by omega) (by omega)
    rw [cvL_filter (fun i v => by simp only [cv_cat])]
    exact hq
theorem E_callSX {idx na : Nat} {S0 S' : List Value} (hw : WS (xY X).cls idx Y na) (hR : RM X Y) (hM : MetX l Y n σ As (.inr v, n', σ')) (hst : S0 = As.reverse ++ S) (hna : As.length = na) (hS' : S' = v.toList ++ S) (hS8 : (S.map fun v => v.category).sum ≤ 8) (hd : decode (xC X) pc = .ok (.invokestatic idx, 3)) (k : E l X r false n' σ' kc ks (pc + 3) L S') : E l X r false n σ (kc + (xR Y).cells) (ks + (xR Y).slots) pc L S0 := by
  intro p e s m args below meth c base b D aC H locs cells slots ls hF hP hS hz hl hc hs
  refine go_runX (vx_runS (As := cvS base b As) (rest := cvS base b S) ⟨hF.1, hF.2.1, hF.2.2.1, hF.2.2.2.2.1, hF.2.2.2.2.2.1⟩ (hM base b D aC) ⟨callB_E hF.2.2.2.2.2.1 hw.1 hR, hF.2.2.2.2.2.1 _ hw.2⟩ ⟨BU_blind, fun U hU hW => ⟨rfl, F_0 (fa := false) hF hP hS (fun q => nomatch q) U hU hW⟩⟩ rfl ((cvS_len As).trans hna) hl.1 (by show cvS base b S0 = _; rw [hst, cvS_app, cvS_rev]) (lv_room (by show ((cvS base b S).map _).sum ≤ 8; rw [cvS_sum]; exact hS8)) hd ⟨by omega, by omega⟩) hS (fun H1 locs1 hP1 hS1  => ?_)
  have k9 := k p e s m args below meth c base b D aC H1 locs1 (cells + (xR Y).cells) (slots + (xR Y).slots) ls hF hP1 hS1 (fun q => nomatch q) hl (by omega) (by omega)
  have e9 : cvS base b S' = (v.map (cv base b)).toList ++ cvS base b S := by rw [hS', cvS_app]; cases v <;> rfl
  rw [e9] at k9
  exact k9
theorem E_callSX_t {idx na ex : Nat} {S0 : List Value} (hw : WS (xY X).cls idx Y na) (hk1 : xK X = 1) (hH : xH X = []) (hr : r = (.inl ex, n', σ')) (hR : RM X Y) (hM : MetX l Y n σ As (.inl ex, n', σ')) (hst : S0 = As.reverse ++ S) (hna : As.length = na) (hS8 : (S.map fun v => v.category).sum ≤ 8) (hd : decode (xC X) pc = .ok (.invokestatic idx, 3)) : E l X r false n σ (kc + (xR Y).cells) (ks + (xR Y).slots) pc L S0 := by
  intro p e s m args below meth c base b D aC H locs cells slots ls hF hP hS hz hl hc hs
  refine go_runT (vx_runS (As := cvS base b As) (rest := cvS base b S) ⟨hF.1, hF.2.1, hF.2.2.1, hF.2.2.2.2.1, hF.2.2.2.2.2.1⟩ (hM base b D aC) ⟨callB_E hF.2.2.2.2.2.1 hw.1 hR, hF.2.2.2.2.2.1 _ hw.2⟩ ⟨BU_blind, fun U hU hW => ⟨rfl, F_0 (fa := false) hF hP hS (fun q => nomatch q) U hU hW⟩⟩ rfl ((cvS_len As).trans hna) hl.1 (by show cvS base b S0 = _; rw [hst, cvS_app, cvS_rev]) (lv_room (by show ((cvS base b S).map _).sum ≤ 8; rw [cvS_sum]; exact hS8)) hd ⟨by omega, by omega⟩) hS (fun ce q9 H1 locs1 hP1 hS1 hce hcv hcl => ?_)
  unfold QQ
  rw [if_neg (by rw [hk1]; decide), if_pos hk1]
  refine vx_out (fun x hx => ?_) hF.2.2.2.2.2.2.1 hce hcv hcl (fun t ht hA => ⟨ex, by rw [hr], rfl, by rw [ht, hr]; exact hP1, hS1.F ht⟩) hS1.2.2 (by omega) (by omega)
  rw [hF.2.2.2.2.2.2.2.2.2.1, hH] at hx
  cases hx
theorem E_callSX_c_n {idx na ex i9 : Nat} {S0 : List Value} (hw : WS (xY X).cls idx Y na) (pre : List (Nat × Nat × Nat × Nat)) (x9 : Nat × Nat × Nat × Nat) (suf : List (Nat × Nat × Nat × Nat)) (hsp : xH X = pre ++ x9 :: suf) (hcov : x9.1 ≤ pc ∧ pc < x9.2.1) (hct : x9.2.2.2 ≠ 0) {name9 : String} (hlk : Cond.classLink (xY X).cls x9.2.2.2 name9 ∈ TBL) (hcast : Cond.castable (exN ex) name9 ∈ NWL) (hpass : ∀ z ∈ pre, z.2.2.2 ≠ 0 ∧ ∃ nm : String, Cond.classLink (xY X).cls z.2.2.2 nm ∈ TBL ∧ (exN ex, nm) ∈ NCL) {j9 : Fin 4} (hi9 : (j9 : Nat) = i9) (hi9n : i9 < xL X) (hR : RM X Y) (hM : MetX l Y n σ As (.inl ex, n', σ')) (hst : S0 = As.reverse ++ S) (hna : As.length = na) (hS8 : (S.map fun v => v.category).sum ≤ 8) (hd : decode (xC X) pc = .ok (.invokestatic idx, 3)) (hd2 : decode (xC X) x9.2.2.1 = .ok (.astore_n j9, 1)) (k : E l X r false n' σ' kc ks (x9.2.2.1 + 1) (st1 i9 L) []) : E l X r false n σ (kc + (xR Y).cells) (ks + (xR Y).slots) pc L S0 := by
  intro p e s m args below meth c base b D aC H locs cells slots ls hF hP hS hz hl hc hs
  refine go_runT (vx_runS (As := cvS base b As) (rest := cvS base b S) ⟨hF.1, hF.2.1, hF.2.2.1, hF.2.2.2.2.1, hF.2.2.2.2.2.1⟩ (hM base b D aC) ⟨callB_E hF.2.2.2.2.2.1 hw.1 hR, hF.2.2.2.2.2.1 _ hw.2⟩ ⟨BU_blind, fun U hU hW => ⟨rfl, F_0 (fa := false) hF hP hS (fun q => nomatch q) U hU hW⟩⟩ rfl ((cvS_len As).trans hna) hl.1 (by show cvS base b S0 = _; rw [hst, cvS_app, cvS_rev]) (lv_room (by show ((cvS base b S).map _).sum ≤ 8; rw [cvS_sum]; exact hS8)) hd ⟨by omega, by omega⟩) hS (fun ce q9 H1 locs1 hP1 hS1 hce hcv hcl => ?_)
  refine vx_catch (name := name9) hF.2.2.2.2.1 (tableOf pre) ⟨x9.1, x9.2.1, x9.2.2.1, x9.2.2.2⟩ (tableOf suf) (by rw [hF.2.2.2.2.2.2.2.2.2.1, hsp]; simp [tableOf]) (fun z hz9 => ?_) (by simp [covers, hcov.1, hcov.2]) hct (hF.2.2.2.2.2.1 _ hlk) (va_Nw.use rfl (hF.2.2.2.2.2.2.2.2.2.2.2.1.2.1 _ hcast)) hce hcv hcl ?_
  · obtain ⟨z0, hz0, rfl⟩ := List.mem_map.mp hz9
    obtain ⟨p1, nm, p2, p3⟩ := hpass z0 hz0
    exact Or.inr ⟨p1, nm, hF.2.2.2.2.2.1 _ p2, hF.2.2.2.2.2.2.2.2.2.2.2.1.2.2.2.2.2.1 _ p3⟩
  · refine lv_astore_n (x := q9) (lv' := (i9, Value.ref q9) :: (cvL base b L).filter (fun q => !(q.1 == i9) && !(q.1 + 1 == i9 && q.2.category == 2))) hF.1 hF.2.1 hd2 hi9 hl hi9n rfl (fun ls' hl' => ?_)
    refine k p e s m args below meth c base b D aC H1 locs1 (cells + (xR Y).cells) (slots + (xR Y).slots) ls' hF hP1 hS1 (fun q => nomatch q) ⟨hl'.1, hl'.2.1, fun q hq => hl'.2.2 q (List.mem_cons_of_mem _ ?_)⟩ (by omega) (by omega)
    rw [cvL_filter (fun i v => by simp only [cv_cat])]
    exact hq
theorem E_callSX_c {idx na ex i9 : Nat} {S0 : List Value} (hw : WS (xY X).cls idx Y na) (pre : List (Nat × Nat × Nat × Nat)) (x9 : Nat × Nat × Nat × Nat) (suf : List (Nat × Nat × Nat × Nat)) (hsp : xH X = pre ++ x9 :: suf) (hcov : x9.1 ≤ pc ∧ pc < x9.2.1) (hct : x9.2.2.2 ≠ 0) {name9 : String} (hlk : Cond.classLink (xY X).cls x9.2.2.2 name9 ∈ TBL) (hcast : Cond.castable (exN ex) name9 ∈ NWL) (hpass : ∀ z ∈ pre, z.2.2.2 ≠ 0 ∧ ∃ nm : String, Cond.classLink (xY X).cls z.2.2.2 nm ∈ TBL ∧ (exN ex, nm) ∈ NCL) (hi9n : i9 < xL X) (hR : RM X Y) (hM : MetX l Y n σ As (.inl ex, n', σ')) (hst : S0 = As.reverse ++ S) (hna : As.length = na) (hS8 : (S.map fun v => v.category).sum ≤ 8) (hd : decode (xC X) pc = .ok (.invokestatic idx, 3)) (hd2 : decode (xC X) x9.2.2.1 = .ok (.astore i9, 2)) (k : E l X r false n' σ' kc ks (x9.2.2.1 + 2) (st1 i9 L) []) : E l X r false n σ (kc + (xR Y).cells) (ks + (xR Y).slots) pc L S0 := by
  intro p e s m args below meth c base b D aC H locs cells slots ls hF hP hS hz hl hc hs
  refine go_runT (vx_runS (As := cvS base b As) (rest := cvS base b S) ⟨hF.1, hF.2.1, hF.2.2.1, hF.2.2.2.2.1, hF.2.2.2.2.2.1⟩ (hM base b D aC) ⟨callB_E hF.2.2.2.2.2.1 hw.1 hR, hF.2.2.2.2.2.1 _ hw.2⟩ ⟨BU_blind, fun U hU hW => ⟨rfl, F_0 (fa := false) hF hP hS (fun q => nomatch q) U hU hW⟩⟩ rfl ((cvS_len As).trans hna) hl.1 (by show cvS base b S0 = _; rw [hst, cvS_app, cvS_rev]) (lv_room (by show ((cvS base b S).map _).sum ≤ 8; rw [cvS_sum]; exact hS8)) hd ⟨by omega, by omega⟩) hS (fun ce q9 H1 locs1 hP1 hS1 hce hcv hcl => ?_)
  refine vx_catch (name := name9) hF.2.2.2.2.1 (tableOf pre) ⟨x9.1, x9.2.1, x9.2.2.1, x9.2.2.2⟩ (tableOf suf) (by rw [hF.2.2.2.2.2.2.2.2.2.1, hsp]; simp [tableOf]) (fun z hz9 => ?_) (by simp [covers, hcov.1, hcov.2]) hct (hF.2.2.2.2.2.1 _ hlk) (va_Nw.use rfl (hF.2.2.2.2.2.2.2.2.2.2.2.1.2.1 _ hcast)) hce hcv hcl ?_
  · obtain ⟨z0, hz0, rfl⟩ := List.mem_map.mp hz9
    obtain ⟨p1, nm, p2, p3⟩ := hpass z0 hz0
    exact Or.inr ⟨p1, nm, hF.2.2.2.2.2.1 _ p2, hF.2.2.2.2.2.2.2.2.2.2.2.1.2.2.2.2.2.1 _ p3⟩
  · refine lv_astore (x := q9) (lv' := (i9, Value.ref q9) :: (cvL base b L).filter (fun q => !(q.1 == i9) && !(q.1 + 1 == i9 && q.2.category == 2))) hF.1 hF.2.1 hd2 hl hi9n rfl (fun ls' hl' => ?_)
    refine k p e s m args below meth c base b D aC H1 locs1 (cells + (xR Y).cells) (slots + (xR Y).slots) ls' hF hP1 hS1 (fun q => nomatch q) ⟨hl'.1, hl'.2.1, fun q hq => hl'.2.2 q (List.mem_cons_of_mem _ ?_)⟩ (by omega) (by omega)
    rw [cvL_filter (fun i v => by simp only [cv_cat])]
    exact hq
theorem E_callSH {idx na : Nat} {S0 S' : List Value} (hw : WSH (xY X).cls idx Y na) (hR : RM X Y) (hM : MetX l Y n σ As (.inr v, n', σ')) (hst : S0 = As.reverse ++ S) (hna : As.length = na) (hS' : S' = v.toList ++ S) (hS8 : (S.map fun v => v.category).sum ≤ 8) (hd : decode (xC X) pc = .ok (.invokestatic idx, 3)) (k : E l X r false n' σ' kc ks (pc + 3) L S') : E l X r false n σ (kc + (xR Y).cells) (ks + (xR Y).slots) pc L S0 := by
  intro p e s m args below meth c base b D aC H locs cells slots ls hF hP hS hz hl hc hs
  refine go_runX (vx_runSX (As := cvS base b As) (rest := cvS base b S) ⟨hF.1, hF.2.1, hF.2.2.1, hF.2.2.2.2.1, hF.2.2.2.2.2.1⟩ (hM base b D aC) (by obtain ⟨h1, h2, h3, h4, h5, h6⟩ := hw; exact ⟨⟨rfl, rfl, hR.1, hR.2, pay_in hF.2.2.2.2.2.1 (by rw [xW_codeH h4]; exact TBL_cons h3), by rw [xW_codeH h4]; exact List.mem_cons_self⟩, hF.2.2.2.2.2.1 _ h3, hF.2.2.2.2.2.1 _ h2, ⟨h5.1, h5.2.1⟩, fun sig h => by have h9 := h5.2.2; rw [h] at h9; exact (Option.some.inj h9).symm, hF.2.2.2.2.2.1 _ h1, hF.2.2.2.2.2.1 _ h6⟩) ⟨BU_blind, fun U hU hW => ⟨rfl, F_0 (fa := false) hF hP hS (fun q => nomatch q) U hU hW⟩⟩ rfl ((cvS_len As).trans hna) hl.1 (by show cvS base b S0 = _; rw [hst, cvS_app, cvS_rev]) (lv_room (by show ((cvS base b S).map _).sum ≤ 8; rw [cvS_sum]; exact hS8)) hd ⟨by omega, by omega⟩) hS (fun H1 locs1 hP1 hS1  => ?_)
  have k9 := k p e s m args below meth c base b D aC H1 locs1 (cells + (xR Y).cells) (slots + (xR Y).slots) ls hF hP1 hS1 (fun q => nomatch q) hl (by omega) (by omega)
  have e9 : cvS base b S' = (v.map (cv base b)).toList ++ cvS base b S := by rw [hS', cvS_app]; cases v <;> rfl
  rw [e9] at k9
  exact k9
theorem E_iret {v9 : Int32} (hk1 : xK X = 0 ∨ (xK X = 1 ∧ fa = false)) (hT : xT X = some .int) (hr : r = (.inr (some (.int v9)), n, σ)) (hd : decode (xC X) pc = .ok (.ireturn, 1)) : E l X r fa n σ kc ks pc L [.int v9] := by
  intro p e s m args below meth c base b D aC H locs cells slots ls hF hP hS hz hl hc hs
  have key : W p l e (xR X) s m args below meth c H locs (xR X).cells (xR X).slots (MQ below (QE base b D aC fa r) args s (xR X).cells (xR X).slots (fr base)) (F0 m pc ls [.int v9]) := W.iret (v := v9) hF.1 hF.2.1 (hF.2.2.2.1.trans hT) (fun t ht hW => ⟨some (.int v9), by rw [hr], rfl, by rw [ht, hr]; exact hP, fun q => by rw [ht, hr]; exact hz q, hS.F ht⟩) hS.2.2 hd hF.2.2.2.2.2.2.1
  have key2 := W.widen (k := (xR X).cells) (n := (xR X).slots) (cells := cells) (slots := slots) (by omega) (by omega) key
  unfold QQ
  rcases hk1 with h0 | ⟨h1, rfl⟩
  · rw [if_pos h0]
    exact key2
  · rw [if_neg (by rw [h1]; decide), if_pos h1]
    exact vx_ret key2
theorem E_zret {v9 : Int32} {ty : FieldType} (hk1 : xK X = 0 ∨ (xK X = 1 ∧ fa = false)) (hT : xT X = some ty) (hnr : narrow ty (.int v9) = .int v9) (hr : r = (.inr (some (.int v9)), n, σ)) (hd : decode (xC X) pc = .ok (.ireturn, 1)) : E l X r fa n σ kc ks pc L [.int v9] := by
  intro p e s m args below meth c base b D aC H locs cells slots ls hF hP hS hz hl hc hs
  have key : W p l e (xR X) s m args below meth c H locs (xR X).cells (xR X).slots (MQ below (QE base b D aC fa r) args s (xR X).cells (xR X).slots (fr base)) (F0 m pc ls [.int v9]) := W.zret (v := v9) hF.1 hF.2.1 (hF.2.2.2.1.trans hT) hnr (fun t ht hW => ⟨some (.int v9), by rw [hr], rfl, by rw [ht, hr]; exact hP, fun q => by rw [ht, hr]; exact hz q, hS.F ht⟩) hS.2.2 hd hF.2.2.2.2.2.2.1
  have key2 := W.widen (k := (xR X).cells) (n := (xR X).slots) (cells := cells) (slots := slots) (by omega) (by omega) key
  unfold QQ
  rcases hk1 with h0 | ⟨h1, rfl⟩
  · rw [if_pos h0]
    exact key2
  · rw [if_neg (by rw [h1]; decide), if_pos h1]
    exact vx_ret key2
theorem E_lret {v9 : Int64} (hk1 : xK X = 0 ∨ (xK X = 1 ∧ fa = false)) (hT : xT X = some .long) (hr : r = (.inr (some (.long v9)), n, σ)) (hd : decode (xC X) pc = .ok (.lreturn, 1)) : E l X r fa n σ kc ks pc L [.long v9] := by
  intro p e s m args below meth c base b D aC H locs cells slots ls hF hP hS hz hl hc hs
  have key : W p l e (xR X) s m args below meth c H locs (xR X).cells (xR X).slots (MQ below (QE base b D aC fa r) args s (xR X).cells (xR X).slots (fr base)) (F0 m pc ls [.long v9]) := W.lret (v := v9) hF.1 hF.2.1 (hF.2.2.2.1.trans hT) (fun t ht hW => ⟨some (.long v9), by rw [hr], rfl, by rw [ht, hr]; exact hP, fun q => by rw [ht, hr]; exact hz q, hS.F ht⟩) hS.2.2 hd hF.2.2.2.2.2.2.1
  have key2 := W.widen (k := (xR X).cells) (n := (xR X).slots) (cells := cells) (slots := slots) (by omega) (by omega) key
  unfold QQ
  rcases hk1 with h0 | ⟨h1, rfl⟩
  · rw [if_pos h0]
    exact key2
  · rw [if_neg (by rw [h1]; decide), if_pos h1]
    exact vx_ret key2
theorem E_dret {v9 : UInt64} (hk1 : xK X = 0 ∨ (xK X = 1 ∧ fa = false)) (hT : xT X = some .double) (hr : r = (.inr (some (.double v9)), n, σ)) (hd : decode (xC X) pc = .ok (.dreturn, 1)) : E l X r fa n σ kc ks pc L [.double v9] := by
  intro p e s m args below meth c base b D aC H locs cells slots ls hF hP hS hz hl hc hs
  have key : W p l e (xR X) s m args below meth c H locs (xR X).cells (xR X).slots (MQ below (QE base b D aC fa r) args s (xR X).cells (xR X).slots (fr base)) (F0 m pc ls [.double v9]) := W.dret (v := v9) hF.1 hF.2.1 (hF.2.2.2.1.trans hT) (fun t ht hW => ⟨some (.double v9), by rw [hr], rfl, by rw [ht, hr]; exact hP, fun q => by rw [ht, hr]; exact hz q, hS.F ht⟩) hS.2.2 hd hF.2.2.2.2.2.2.1
  have key2 := W.widen (k := (xR X).cells) (n := (xR X).slots) (cells := cells) (slots := slots) (by omega) (by omega) key
  unfold QQ
  rcases hk1 with h0 | ⟨h1, rfl⟩
  · rw [if_pos h0]
    exact key2
  · rw [if_neg (by rw [h1]; decide), if_pos h1]
    exact vx_ret key2
theorem E_vret  (hk1 : xK X = 0 ∨ (xK X = 1 ∧ fa = false)) (hT : xT X = none) (hr : r = (.inr none, n, σ)) (hd : decode (xC X) pc = .ok (.return_, 1)) : E l X r fa n σ kc ks pc L [] := by
  intro p e s m args below meth c base b D aC H locs cells slots ls hF hP hS hz hl hc hs
  have key : W p l e (xR X) s m args below meth c H locs (xR X).cells (xR X).slots (MQ below (QE base b D aC fa r) args s (xR X).cells (xR X).slots (fr base)) (F0 m pc ls []) := W.vret hF.1 hF.2.1 (hF.2.2.2.1.trans hT) (fun t ht hW => ⟨none, by rw [hr], rfl, by rw [ht, hr]; exact hP, fun q => by rw [ht, hr]; exact hz q, hS.F ht⟩) hS.2.2 hd hF.2.2.2.2.2.2.1
  have key2 := W.widen (k := (xR X).cells) (n := (xR X).slots) (cells := cells) (slots := slots) (by omega) (by omega) key
  unfold QQ
  rcases hk1 with h0 | ⟨h1, rfl⟩
  · rw [if_pos h0]
    exact key2
  · rw [if_neg (by rw [h1]; decide), if_pos h1]
    exact vx_ret key2
theorem E_throw {ex ik is9 ic : Nat} {text : String} (hk1 : xK X = 1) (hH : xH X = []) (hr : r = (.inl ex, n, σ)) (hwk : Cond.classLink (xY X).cls ik (exN ex) ∈ TBL) (hwi : Cond.initialized (exN ex) ∈ TBL) (hs9 : ((xY X).cls, is9, text) ∈ STRL) (hat : ∀ w ∈ vx_atS (xY X).cls ic (exN ex) exUp, w ∈ TBL ∨ w ∈ NWL) (hgd : ∀ w ∈ vx_atS (xY X).cls ic (exN ex) exUp, vx_ot w = true) (hcf : Bundle.fit (exN ex) = true) (hRf : 8 ≤ (xR X).frames ∧ 100 ≤ (xR X).locals) (hS8 : (S.map fun v => v.category).sum ≤ 8) (d0 : decode (xC X) pc = .ok (.new ik, 3)) (d3 : decode (xC X) (pc + 3) = .ok (.dup, 1)) (d4 : decode (xC X) (pc + 4) = .ok (.ldc is9, 2)) (d6 : decode (xC X) (pc + 6) = .ok (.invokespecial ic, 3)) (d9 : decode (xC X) (pc + 9) = .ok (.athrow, 1)) : E l X r false n σ (kc + 1) (ks + 6) pc L S := by
  intro p e s m args below meth c base b D aC H locs cells slots ls hF hP hS hz hl hc hs
  have hts := hF.2.2.2.2.2.1
  obtain ⟨sa, hstr⟩ := hF.2.2.2.2.2.2.2.2.2.2.2.1.2.2.1 _ hs9
  unfold QQ
  rw [if_neg (by rw [hk1]; decide), if_pos hk1]
  refine vx_throwS (names := exUp) hF.1 hF.2.1 hF.2.2.2.2.2.2.2.2.1 hF.2.2.2.2.1 hcf (fun nm h => by simp only [exUp, List.mem_cons, List.not_mem_nil, or_false] at h; rcases h with rfl | rfl <;> decide +kernel) (hts _ hwk) (hts _ hwi) hstr (fun w hw => (hat w hw).elim (hts w) (fun h => va_Nw.use (nw_tab (List.mem_filter.mp h).2) (hF.2.2.2.2.2.2.2.2.2.2.2.1.2.1 w h))) (fun w hw => ?_) hF.2.2.2.2.2.2.2.2.2.2.2.1.2.2.2.1 hF.2.2.2.2.2.2.2.2.2.2.2.1.2.2.2.2.1 hS (by rw [hF.2.2.1]; exact hl.1) d0 d3 d4 d6 d9 (fun x hx => ?_) (by show 2 + 3 < _; omega) ?_ (by omega) (by omega) hF.2.2.2.2.2.2.1 (fun t hA hsz hq => ⟨ex, by rw [hr], rfl, by rw [hr]; exact hP.kept (fun k x hx => hq x.1 ((hP k x hx).lt)), ⟨Nat.le_trans hS.1 hsz, fun q h1 h2 => (hq q (Nat.lt_of_lt_of_le h1 hS.1)).trans (hS.2.1 q h1 h2)⟩⟩) hS.2.2 (by omega) (by omega)
  · rcases List.mem_cons.mp hw with rfl | hw
    · rfl
    · rcases List.mem_cons.mp hw with rfl | hw
      · rfl
      · exact hgd w hw
  · rw [hF.2.2.2.2.2.2.2.2.2.1, hH] at hx
    cases hx
  · have h9 := cvS_sum (base := base) (b := b) S
    unfold cvS at h9
    show _ + (13 * (2 + 1) + 43) ≤ _
    unfold cvS
    omega
theorem E_throwW {ex ik is9 ic : Nat} {text : String} (hk1 : xK X = 1) (hH : xH X = []) (hr : r = (.inl ex, n, σ)) (hwk : Cond.classLink (xY X).cls ik (exN ex) ∈ TBL) (hwi : Cond.initialized (exN ex) ∈ TBL) (hs9 : ((xY X).cls, is9, text) ∈ STRL) (hat : ∀ w ∈ vx_atS (xY X).cls ic (exN ex) exUp, w ∈ TBL ∨ w ∈ NWL) (hgd : ∀ w ∈ vx_atS (xY X).cls ic (exN ex) exUp, vx_ot w = true) (hcf : Bundle.fit (exN ex) = true) (hRf : 8 ≤ (xR X).frames ∧ 100 ≤ (xR X).locals) (hS8 : (S.map fun v => v.category).sum ≤ 8) (d0 : decode (xC X) pc = .ok (.new ik, 3)) (d3 : decode (xC X) (pc + 3) = .ok (.dup, 1)) (d4 : decode (xC X) (pc + 4) = .ok (.ldc_w is9, 3)) (d6 : decode (xC X) (pc + 7) = .ok (.invokespecial ic, 3)) (d9 : decode (xC X) (pc + 10) = .ok (.athrow, 1)) : E l X r false n σ (kc + 1) (ks + 6) pc L S := by
  intro p e s m args below meth c base b D aC H locs cells slots ls hF hP hS hz hl hc hs
  have hts := hF.2.2.2.2.2.1
  obtain ⟨sa, hstr⟩ := hF.2.2.2.2.2.2.2.2.2.2.2.1.2.2.1 _ hs9
  unfold QQ
  rw [if_neg (by rw [hk1]; decide), if_pos hk1]
  refine vx_throwSW (names := exUp) hF.1 hF.2.1 hF.2.2.2.2.2.2.2.2.1 hF.2.2.2.2.1 hcf (fun nm h => by simp only [exUp, List.mem_cons, List.not_mem_nil, or_false] at h; rcases h with rfl | rfl <;> decide +kernel) (hts _ hwk) (hts _ hwi) hstr (fun w hw => (hat w hw).elim (hts w) (fun h => va_Nw.use (nw_tab (List.mem_filter.mp h).2) (hF.2.2.2.2.2.2.2.2.2.2.2.1.2.1 w h))) (fun w hw => ?_) hF.2.2.2.2.2.2.2.2.2.2.2.1.2.2.2.1 hF.2.2.2.2.2.2.2.2.2.2.2.1.2.2.2.2.1 hS (by rw [hF.2.2.1]; exact hl.1) d0 d3 d4 d6 d9 (fun x hx => ?_) (by show 2 + 3 < _; omega) ?_ (by omega) (by omega) hF.2.2.2.2.2.2.1 (fun t hA hsz hq => ⟨ex, by rw [hr], rfl, by rw [hr]; exact hP.kept (fun k x hx => hq x.1 ((hP k x hx).lt)), ⟨Nat.le_trans hS.1 hsz, fun q h1 h2 => (hq q (Nat.lt_of_lt_of_le h1 hS.1)).trans (hS.2.1 q h1 h2)⟩⟩) hS.2.2 (by omega) (by omega)
  · rcases List.mem_cons.mp hw with rfl | hw
    · rfl
    · rcases List.mem_cons.mp hw with rfl | hw
      · rfl
      · exact hgd w hw
  · rw [hF.2.2.2.2.2.2.2.2.2.1, hH] at hx
    cases hx
  · have h9 := cvS_sum (base := base) (b := b) S
    unfold cvS at h9
    show _ + (13 * (2 + 1) + 43) ≤ _
    unfold cvS
    omega
theorem met_of_E {args : List Value} (hk : xK X = 0) (hH : xH X = []) (hpl : plainName (xY X).cls = true) (hfl : l.stackTraces = false) (hsc : xS X = none) (hlen : (lg_sl args).length ≤ xL X) (hE : E l X r fa n σ (xR X).cells (xR X).slots 0 (lv_args 0 args) []) : MetN l X fa n σ args r := by
  intro base b D aC
  refine Met.ofW (cc := xC X) (maxL := xL X) (ret := xT X) hpl (xW_code hH) ?_
  intro p e s m args' below meth c s₁ B hml hv
  obtain ⟨rfl, hv1, hv2, hv3, hv4⟩ := hv
  have hpre : ∀ w ∈ xW X, w.before _ s = true := atoms_spec (ws := xW X) B.pre
  have htab : c.exceptionTable.toList = [] := by
    obtain ⟨meth9, c9, h1, h2, -, -, -, -, h7, -⟩ := Cond.code_spec B.named (hpre _ (by rw [xW_code hH]; exact List.mem_cons_self))
    cases Option.some.inj (h1.symm.trans B.method)
    cases Option.some.inj (h2.symm.trans (Stand.of_body B).code)
    exact Array.isEmpty_iff.mp h7 ▸ rfl
  have h9 := hE p e s m (cvS base b args).toArray below meth c base b D aC s.heap [] 0 0 _ ⟨B.exec, B.bytes, hml, B.returns, findClass_of_methodNamed B.named, fun w hw => hpre w (by rw [xW_code hH]; exact List.mem_cons_of_mem _ hw), B.notSynchronized, hv1, hfl, by rw [htab, hH]; rfl, (name_of_methodNamed B.named B.method).1, hv3, by rw [hsc]; trivial⟩ hv2 va_S.rf hv4 (by rw [← lv_args_cv]; exact lv_entry (cvS base b args) (by rw [lg_sl_cv]; exact hlen)) (by omega) (by omega)
  unfold QQ at h9
  rw [if_pos hk] at h9
  rw [lg_entry_eq]
  exact h9
theorem metX_of_E {args : List Value} (hk : xK X = 1) (hH : xH X = []) (hpl : plainName (xY X).cls = true) (hfl : l.stackTraces = false) (hsc : xS X = none) (hlen : (lg_sl args).length ≤ xL X) (hE : E l X r false n σ (xR X).cells (xR X).slots 0 (lv_args 0 args) []) : MetX l X n σ args r := by
  intro base b D aC
  refine vx_ofW (cc := xC X) (maxL := xL X) (ret := xT X) hpl (xW_code hH) ?_
  intro p e s m args' below meth c s₁ B hml htab0 hv
  obtain ⟨rfl, hv1, hv2, hv3, hv4⟩ := hv
  have hpre : ∀ w ∈ xW X, w.before _ s = true := atoms_spec (ws := xW X) B.pre
  have htab : c.exceptionTable.toList = [] := List.eq_nil_iff_forall_not_mem.mpr htab0
  have h9 := hE p e s m (cvS base b args).toArray below meth c base b D aC s.heap [] 0 0 _ ⟨B.exec, B.bytes, hml, B.returns, findClass_of_methodNamed B.named, fun w hw => hpre w (by rw [xW_code hH]; exact List.mem_cons_of_mem _ hw), B.notSynchronized, hv1, hfl, by rw [htab, hH]; rfl, (name_of_methodNamed B.named B.method).1, hv3, by rw [hsc]; trivial⟩ hv2 va_S.rf (fun q => nomatch q) (by rw [← lv_args_cv]; exact lv_entry (cvS base b args) (by rw [lg_sl_cv]; exact hlen)) (by omega) (by omega)
  unfold QQ at h9
  rw [if_neg (by rw [hk]; decide), if_pos hk] at h9
  rw [lg_entry_eq]
  exact h9
theorem metH_of_E {args : List Value} (hk : xK X = 1) (hH : xH X ≠ []) (hpl : plainName (xY X).cls = true) (hfl : l.stackTraces = false) (hsc : xS X = none) (hlen : (lg_sl args).length ≤ xL X) (hE : E l X r false n σ (xR X).cells (xR X).slots 0 (lv_args 0 args) []) : MetX l X n σ args r := by
  intro base b D aC
  refine vx_ofWH (cc := xC X) (maxL := xL X) (ret := xT X) hpl (xW_codeH hH) ?_
  intro p e s m args' below meth c s₁ B hml hv
  obtain ⟨rfl, hv1, hv2, hv3, hv4⟩ := hv
  have hpre : ∀ w ∈ xW X, w.before _ s = true := atoms_spec (ws := xW X) B.pre
  have htab : c.exceptionTable.toList = tableOf (xH X) := vx_table (x := xY X) B (hpre _ (by rw [xW_codeH hH]; exact List.mem_cons_self))
  have h9 := hE p e s m (cvS base b args).toArray below meth c base b D aC s.heap [] 0 0 _ ⟨B.exec, B.bytes, hml, B.returns, findClass_of_methodNamed B.named, fun w hw => hpre w (by rw [xW_codeH hH]; exact List.mem_cons_of_mem _ hw), B.notSynchronized, hv1, hfl, htab, (name_of_methodNamed B.named B.method).1, hv3, by rw [hsc]; trivial⟩ hv2 va_S.rf (fun q => nomatch q) (by rw [← lv_args_cv]; exact lv_entry (cvS base b args) (by rw [lg_sl_cv]; exact hlen)) (by omega) (by omega)
  unfold QQ at h9
  rw [if_neg (by rw [hk]; decide), if_pos hk] at h9
  rw [lg_entry_eq]
  exact h9
end ER3
