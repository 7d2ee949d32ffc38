theorem wD0 : Cond.methodLink RL 117 yX7_init ∈ TBL := in_TBL (mT1 (List.mem_of_getElem? (i := 25) (by decide +kernel))) (by decide +kernel)
theorem wD1 : Cond.code yX7_init cX7_init 1 none ∈ TBL := in_TBL (mT1 (List.mem_of_getElem? (i := 27) (by decide +kernel))) (by decide +kernel)
theorem wD2 : Cond.instanceMethod yX7_init ∈ TBL := in_TBL (mT1 (List.mem_of_getElem? (i := 26) (by decide +kernel))) (by decide +kernel)
theorem wD3 : Cond.methodLink RL 120 yX8_init ∈ TBL := in_TBL (mT5 (List.mem_of_getElem? (i := 123) (by decide +kernel))) (by decide +kernel)
theorem wD4 : Cond.code yX8_init cX8_init 2 none ∈ TBL := in_TBL (mT5 (List.mem_of_getElem? (i := 125) (by decide +kernel))) (by decide +kernel)
theorem wD5 : Cond.instanceMethod yX8_init ∈ TBL := in_TBL (mT5 (List.mem_of_getElem? (i := 124) (by decide +kernel))) (by decide +kernel)
theorem wD6 : Cond.classLink RL 8 RX7 ∈ TBL := in_TBL (mT1 (List.mem_of_getElem? (i := 23) (by decide +kernel))) (by decide +kernel)
theorem wD7 : Cond.instantiable RX7 9 ∈ TBL := in_TBL (mT1 (List.mem_of_getElem? (i := 24) (by decide +kernel))) (by decide +kernel)
theorem wD8 : Cond.classLink RL 118 RX8 ∈ TBL := in_TBL (mT5 (List.mem_of_getElem? (i := 121) (by decide +kernel))) (by decide +kernel)
theorem wD9 : Cond.instantiable RX8 22 ∈ TBL := in_TBL (mT5 (List.mem_of_getElem? (i := 122) (by decide +kernel))) (by decide +kernel)
theorem wD10 : Cond.arrayClass .double ∈ TBL := in_TBL (by decide +kernel) (by decide +kernel)
theorem cwI_RL_7 : WI RL 117 X_X7_init 0 := ⟨⟨wD0, wT57, wD1, rfl, ⟨by decide +kernel, by decide +kernel, by decide +kernel⟩⟩, wD2, rfl, rfl⟩
theorem cwI_RL_8 : WI RL 120 X_X8_init 0 := ⟨⟨wD3, wT339, wD4, rfl, ⟨by decide +kernel, by decide +kernel, by decide +kernel⟩⟩, wD5, rfl, rfl⟩
def memZ : Mem := (fun _ _ => 0, fun _ _ => 0, fun _ _ => none, fun _ _ => 0)
def mem0 : Mem := X8_mem (X7_mem memZ)
theorem E_drop {l : Launch} {X : MX} {r : Rs} {fa : Bool} {n : Nat} {σ : Mem} {kc ks pc : Nat} {L : List (Nat × Value)} {S : List Value} (hk : xK X = 2) (k : E l X r false n σ kc ks pc L S) : E l X r fa n σ kc ks pc L S := by
  intro p e s m args below meth c base b D aC H locs cells slots ls hF hP hS hz hl hc hs
  have h9 := k p e s m args below meth c base b D aC H locs cells slots ls hF hP hS (fun q => nomatch q) hl hc hs
  unfold QQ at h9 ⊢
  rw [if_neg (by rw [hk]; decide), if_neg (by rw [hk]; decide)] at h9 ⊢
  exact h9
set_option maxHeartbeats 8000000 in
set_option maxRecDepth 100000 in
theorem E_law0 {l : Launch} (hfl : l.stackTraces = false) (fl nn : Nat) {Ln : Nat} {xs : Nat → Int32} {r : Rs} (hF : B_L_law fl xs Ln nn 0 mem0 = some 1) : E l (X_law Ln xs) r true 0 memZ (8 * nn + 302) (48 * nn + 4211) 0 [(0, .ref 400)] [] := by
  have hZ : Zf 0 memZ := fun k _ _ j => ⟨rfl, rfl, rfl, rfl⟩
  refine E_newZ (kc := 8 * nn + 301) (ks := 48 * nn + 4202) (kk := 320) (ci := 9) (N := 9) tyX7 rfl rfl win_X7 tyX7_ok hft_X7 wD6 wD7 wT57 rfl rfl rfl rfl (Zf_at hZ (rfl : shape 320 = some (.inl 9)) (by decide)) dL_law_0 ?_
  have hZ : Zf 1 memZ := Zf_up hZ
  refine E_dup rfl dL_law_3 ?_
  refine E_weak (kc' := (8 * nn + 12) + 289) (ks' := (48 * nn + 1820) + 2382) (by omega) (by omega) ?_
  refine E_callI (kc := 8 * nn + 12) (ks := 48 * nn + 1820) (na := 0) (As := []) (S := [.ref 320]) (bk := 320) cwI_RL_7 ⟨Nat.le_of_ble_eq_true rfl, Nat.le_of_ble_eq_true rfl⟩ (T_X7_init hfl _ hZ) rfl rfl rfl (Nat.le_of_ble_eq_true rfl) dL_law_4 ?_
  have hZ := X7_Z hZ
  refine E_astore_n (j := 1) (i := 1) (L' := [(1, .ref 320), (0, .ref 400)]) rfl (Nat.le_of_ble_eq_true rfl) rfl dL_law_7 ?_
  refine E_newZ (kc := 8 * nn + 11) (ks := 48 * nn + 1798) (kk := 340) (ci := 10) (N := 22) tyX8 rfl rfl win_X8 tyX8_ok hft_X8 wD8 wD9 wT339 rfl rfl rfl rfl (Zf_at hZ (rfl : shape 340 = some (.inl 10)) (by decide)) dL_law_8 ?_
  have hZ := Zf_up hZ
  refine E_dup rfl dL_law_11 ?_
  refine E_weak (kc' := (8 * nn + 2) + 9) (ks' := (48 * nn + 2) + 1796) (by omega) (by omega) ?_
  refine E_callI (kc := 8 * nn + 2) (ks := 48 * nn + 2) (na := 0) (As := []) (S := [.ref 340]) (bk := 340) cwI_RL_8 ⟨Nat.le_of_ble_eq_true rfl, Nat.le_of_ble_eq_true rfl⟩ (T_X8_init hfl _ hZ) rfl rfl rfl (Nat.le_of_ble_eq_true rfl) dL_law_12 ?_
  have hZ := X8_Z hZ
  refine E_astore_n (j := 2) (i := 2) (L' := [(2, .ref 340), (1, .ref 320), (0, .ref 400)]) rfl (Nat.le_of_ble_eq_true rfl) rfl dL_law_15 ?_
  refine E_iconst (v := (1 : Int32)) rfl dL_law_16 ?_
  refine E_newa (kc := 8 * nn + 1) (ks := 48 * nn + 1) (kk := 350) (t := 1) (N := 1) (atype := .long) (ty := .long) rfl (Or.inr (Or.inl ⟨rfl, rfl⟩)) wC29 (by decide) (by decide) (by decide) rfl rfl rfl rfl (fun j => Z0_a (Zf_at hZ (rfl : shape 350 = some (.inr (1, 1))) (by decide)) j) dL_law_17 ?_
  have hZ := Zf_up hZ
  refine E_astore_n (j := 3) (i := 3) (L' := [(3, .ref 350), (2, .ref 340), (1, .ref 320), (0, .ref 400)]) rfl (Nat.le_of_ble_eq_true rfl) rfl dL_law_19 ?_
  refine E_iconst (v := (1 : Int32)) rfl dL_law_20 ?_
  refine E_newa (kc := 8 * nn + 0) (ks := 48 * nn + 0) (kk := 351) (t := 3) (N := 1) (atype := .double) (ty := .double) rfl (Or.inr (Or.inr (Or.inr ⟨rfl, rfl⟩))) wD10 (by decide) (by decide) (by decide) rfl rfl rfl rfl (fun j => Z0_a (Zf_at hZ (rfl : shape 351 = some (.inr (3, 1))) (by decide)) j) dL_law_21 ?_
  have hZ := Zf_up hZ
  refine E_astore (L' := [(4, .ref 351), (3, .ref 350), (2, .ref 340), (1, .ref 320), (0, .ref 400)]) (Nat.le_of_ble_eq_true rfl) rfl dL_law_23 ?_
  refine E_iconst (v := (0 : Int32)) rfl dL_law_25 ?_
  refine E_istore (L' := [(5, .int (0 : Int32)), (4, .ref 351), (3, .ref 350), (2, .ref 340), (1, .ref 320), (0, .ref 400)]) (Nat.le_of_ble_eq_true rfl) rfl dL_law_26 ?_
  refine E_sub [5, 4, 3, 2, 1, 0] rfl ?_
  refine E_drop rfl ?_
  refine E_weak (kc' := 8 * nn) (ks' := 48 * nn) (by omega) (by omega) ?_
  exact T_L_law hfl fl nn 0 _ hF
theorem whole_start {p : Program} {e : Env} {s : State} {m : MethodId} {below : List Frame} {meth : Method} {c : Code} (l : Launch) (hflags : l.flags = flags0) {b L : Nat} {xs : Nat → Int32} (hL : L ≤ 3584) (C0 : lw_At p s m meth c b L xs) (hname : meth.name = "law") (htab : c.exceptionTable.toList = []) (hlaw : ∃ fl nn : Nat, nn ≤ 60000 ∧ B_L_law fl xs L nn 0 mem0 = some 1) : W p l e room_1 s m #[Value.ref b] below meth c s.heap [] 0 0 (lw_Z below #[Value.ref b] s) (entryFrame m ([Value.ref b] : List Value).toArray 9) := by
  obtain ⟨hx, hb, hr, hml, hown, hts, hX, hbl, hlocks, hgv⟩ := id C0
  obtain ⟨D, aC, hEV⟩ := EV_start hts hgv
  obtain ⟨fl, nn, hnn, hF⟩ := hlaw
  have hfl : l.stackTraces = false := by unfold Launch.stackTraces; rw [hflags]; decide +kernel
  have h9 := E_law0 (r := (.inl 0, 0, memZ)) hfl fl nn hF p e s m #[Value.ref b] below meth c s.heap.size b D aC s.heap [] 0 0 _ ⟨hx, hb, hml, hr, hown, fun w hw => hts w (List.mem_filter.mp hw).1, hlocks, Nat.le_refl _, hfl, htab, hname, hEV, hX, hbl, rfl⟩ (fun k q h => by simp [Wd] at h) va_S.rf (fun _ => rfl) (by rw [show [(0, Value.ref 400)] = lv_args 0 [Value.ref 400] from rfl, ← lv_args_cv]; exact lv_entry (cvS s.heap.size b [Value.ref 400]) (Nat.le_of_ble_eq_true rfl)) (by show 0 + (8 * nn + 302) ≤ 603072; omega) (by show 0 + (48 * nn + 4211) ≤ 7182442; omega)
  rw [lg_entry_eq]
  exact h9

