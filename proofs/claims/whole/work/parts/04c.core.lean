section ER2
variable {l : Launch} {X : MX} {r : Rs} {fa : Bool} {n : Nat} {σ : Mem} {kc ks pc : Nat} {L : List (Nat × Value)} {S : List Value}
theorem cv_rf {base b : Nat} (x : Option Nat) : cv base b (rfA x) = va_rf (x.map (adK base b)) := by cases x <;> rfl
theorem E_get {ci idx N j : Nat} {C ref : String} {T : u_T} {v : Value} (kk : Nat) (hcl : vwCl[ci]? = some (C, T, N)) (hN : nF ci = N) (hin : ∀ w ∈ u_ws C T N, w ∈ TBL) (hj : j < N) (href : ref = (T j).1) (hw : Cond.fieldLink (xY X).cls idx ref (T j).2.1 (T j).2.2.1 ∈ TBL) (hsh : shape kk = some (.inl ci)) (hk : ordK kk < n) (hv : fvA σ kk j (fty ci j) = v) (hd : decode (xC X) pc = .ok (.getfield idx, 3)) (k : E l X r fa n σ kc ks (pc + 3) L (v :: S)) : E l X r fa n σ kc ks pc L (.ref kk :: S) := by
  intro p e s m args below meth c base b D aC H locs cells slots ls hF hP hS hz hl hc hs
  have hg := Wd_get (base := base) (b := b) (aC := aC) (σ := σ) hsh hk
  rw [cellE_o hsh] at hg
  subst href
  subst hv
  exact va_get hF.1 hF.2.1 hF.2.2.2.2.2.1 hin hF.2.2.2.2.1 hF.2.2.2.2.2.2.2.2.2.2.2.1.1 hP (ordK kk) hg hcl j hj (hF.2.2.2.2.2.1 _ hw) (fun _ h => h) (fsE_get (by rw [hN]; exact hj)) hd (k p e s m args below meth c base b D aC H locs cells slots ls hF hP hS hz hl hc hs)
theorem put_core {p : Program} {e : Env} {R : Room} {s : State} {m : MethodId} {args : Array Value} {below : List Frame} {meth : Method} {c : Code} {cc : ByteArray} {base b : Nat} {D : va_G} {aC : Nat → ClassId} {H : Heap} {locs : List Loc} {cells slots : Nat} {ls : Array Slot} {rest : List Value} {Q : State → Prop} {own C ref : String} {T : u_T} {ci idx N j kk : Nat} {v : Value} {σ' : Mem} {ty : FieldType} {y : MethodName}
    (hx : p.tables.exec = Jvm.exec) (hb : c.code = cc) (hown : s.vm.findClass own = some m.cls) (hts : ∀ w ∈ TBL, w.before args s = true) (hK : va_K D vwCl (tysA aC) s) (hP : va_P D vwCl (Wd base b aC n σ) H) (hS : va_S (fr base) s.heap H locs)
    (hcl : vwCl[ci]? = some (C, T, N)) (hN : nF ci = N) (hin : ∀ w ∈ u_ws C T N, w ∈ TBL) (ty0 : Nat → FieldType) (hty : ∀ k, k < N → parseFieldDescriptor (T k).2.2.1 = some (ty0 k)) (hnm : ∀ a, a < N → ∀ b, b < N → a ≠ b → (T a).2.1 ≠ (T b).2.1) (hj : j < N) (href : ref = (T j).1) (hw : Cond.fieldLink own idx ref (T j).2.1 (T j).2.2.1 ∈ TBL)
    (hfin : (T j).2.2.2 = false ∨ ((T j).2.2.2 = true ∧ meth.name = "<init>" ∧ (T j).1 = own)) (hsh : shape kk = some (.inl ci)) (hk : ordK kk < n) (hdsc : parseFieldDescriptor (T j).2.2.1 = some ty) (hnar : narrow ty (cv base b v) = cv base b v) (hfit : fits ty (cv base b v) = true)
    (hoff : offK σ σ' kk) (hv' : fvA σ' kk j (fty ci j) = v) (ho : ∀ i, i ≠ j → fvA σ' kk i (fty ci i) = fvA σ kk i (fty ci i)) (hd : decode cc pc = .ok (.putfield idx, 3))
    (kk2 : ∀ (H1 : Heap) (locs1 : List Loc), va_P D vwCl (Wd base b aC n σ') H1 → va_S (fr base) s.heap H1 locs1 → H1.size = H.size → W p l e R s m args below meth c H1 locs1 cells slots Q (F0 m (pc + 3) ls rest)) : W p l e R s m args below meth c H locs cells slots Q (F0 m pc ls (cv base b v :: .ref (adK base b kk) :: rest)) := by
  have hg := Wd_get (base := base) (b := b) (aC := aC) (σ := σ) hsh hk
  rw [cellE_o hsh] at hg
  subst href
  have hD : va_D (fr base) (Wd base b aC n σ) := Wd_D
  have hap := va_apart (own := own) hts hin ty0 hty hnm hK hcl
  obtain ⟨r', h1, cell, q1, q2, q3, q4⟩ := hP (ordK kk) _ hg
  have hr : r' = (C, T, N) := Option.some.inj (h1.symm.trans hcl)
  subst hr
  obtain ⟨hSl, hfc, kC, hkC, hkind⟩ := hK.1 ci _ hcl
  obtain ⟨cf, kf, fi, f, hi, hsl⟩ := hSl j hj
  have hlay := hts _ (hin _ (u_in_lay hj))
  unfold u_lay at hlay
  have hst := (u_facts hfc hkC (u_lays hts hin hj) hi).1
  have fin : ∀ (H' : Heap), H'[adK base b kk]? = some (cell.setSlot (D.2 ci j) (cv base b v)) → H'.size = H.size → (∀ q : Nat, q ≠ adK base b kk → H'[q]? = H[q]?) → va_P D vwCl (Wd base b aC n σ') H' := by
    intro H' e1 e2 e3
    have h9 := hP.set (e := .inr (ci, (fsE base b σ kk ci).set j (cv base b v))) (H1 := H') hD hg ⟨_, hcl, t_OB.to (V := updV (vp_V (fsE base b σ kk ci)) j (cv base b v)) ⟨_, e1, q2, q3, t_set q4 hap hj _⟩ (fun i _ => vp_updV_set (by rw [fsE_len, hN]; exact hj) _ i)⟩ e3
    rw [Wd_set (σ' := σ') hsh hk (by rw [cellE_o hsh, fsE_set hv' ho]) (fun i hi => cellE_off hoff hi)] at h9
    exact h9
  rcases hfin with hfin | ⟨hfin, hin2, hdecl⟩
  · rw [if_neg (by rw [hfin]; decide)] at hlay
    have h6 := u_store hfc hkC hkind hlay hi hdsc hnar hfit
    refine W.putK hx hb (f := f) ⟨hown, hts _ hw, ⟨_, _, _, hi⟩, hst⟩ (by rw [q2]; exact h6) q1 q3 (by rw [hsl]; exact k2_hasslot (q4 j hj)) rfl rfl hd fun H' e1 e2 e3 => ?_
    rw [hsl] at e1 ⊢
    exact kk2 H' _ (fin H' e1 e2 e3) (hS.put e2 e3 (by rw [adK_sh hsh]; exact Nat.le_add_right _ _)) e2
  · rw [if_pos hfin] at hlay
    have hcf : m.cls = cf := by
      obtain ⟨_, _, c', _, _, _, -, -, hf', -, -, -, hown2, -⟩ := Cond.laysFinal_spec hlay
      have e1 : c' = cf := by have := hi.symm.trans hf'; simp at this; exact this.1.symm
      rw [hdecl] at hown2
      rw [← e1]; exact Option.some.inj (hown.symm.trans hown2)
    have h6 := u_fits hfc hkC hkind (Or.inr hlay) hi hdsc hnar hfit
    refine W.putFinK hx hb hown (hts _ hw) hi hst hcf hin2 (by rw [q2]; exact h6) q1 q3 (by rw [hsl]; exact k2_hasslot (q4 j hj)) rfl rfl hd fun H' e1 e2 e3 => ?_
    rw [hsl] at e1 ⊢
    exact kk2 H' _ (fin H' e1 e2 e3) (hS.put e2 e3 (by rw [adK_sh hsh]; exact Nat.le_add_right _ _)) e2
theorem E_putI {ci idx N j : Nat} {C ref : String} {T : u_T} {ty : FieldType} {v : Int32} (kk : Nat) (ty0 : Nat → FieldType) (hcl : vwCl[ci]? = some (C, T, N)) (hN : nF ci = N) (hin : ∀ w ∈ u_ws C T N, w ∈ TBL) (hty : ∀ k, k < N → parseFieldDescriptor (T k).2.2.1 = some (ty0 k)) (hnm : ∀ a, a < N → ∀ b, b < N → a ≠ b → (T a).2.1 ≠ (T b).2.1) (hj : j < N) (href : ref = (T j).1) (hw : Cond.fieldLink (xY X).cls idx ref (T j).2.1 (T j).2.2.1 ∈ TBL) (hfin : (T j).2.2.2 = false ∨ ((T j).2.2.2 = true ∧ (xY X).name = "<init>" ∧ (T j).1 = (xY X).cls)) (hdsc : parseFieldDescriptor (T j).2.2.1 = some ty) (htj : fty ci j = ty) (hti : ty = .int) (hsh : shape kk = some (.inl ci)) (hk : ordK kk < n) (hd : decode (xC X) pc = .ok (.putfield idx, 3)) (k : E l X r fa n (pI σ kk j v) kc ks (pc + 3) L S) : E l X r fa n σ kc ks pc L (.int v :: .ref kk :: S) := by
  intro p e s m args below meth c base b D aC H locs cells slots ls hF hP hS hz hl hc hs
  have hV : fvA (pI σ kk j v) kk j (fty ci j) = .int v := by rw [htj]; subst hti; simp [fvA, gI, pI, u2]
  have hM : meth.name = (xY X).name := hF.2.2.2.2.2.2.2.2.2.2.1
  exact put_core (y := xY X) hF.1 hF.2.1 hF.2.2.2.2.1 hF.2.2.2.2.2.1 hF.2.2.2.2.2.2.2.2.2.2.2.1.1 hP hS hcl hN hin ty0 hty hnm hj href hw (hfin.imp id (fun q => ⟨q.1, hM.trans q.2.1, q.2.2⟩)) hsh hk hdsc (by subst hti; rfl) (by subst hti; rfl) offK_I hV (fun i hi => fvA_I (fun q => hi q.2)) hd (fun H1 locs1 hP1 hS1 e2 => (k p e s m args below meth c base b D aC H1 locs1 cells slots ls hF hP1 hS1 (fun q => e2.trans (hz q)) hl hc hs))
theorem E_putZ {ci idx N j : Nat} {C ref : String} {T : u_T} {ty : FieldType} {v : Int32} (kk : Nat) (ty0 : Nat → FieldType) (hcl : vwCl[ci]? = some (C, T, N)) (hN : nF ci = N) (hin : ∀ w ∈ u_ws C T N, w ∈ TBL) (hty : ∀ k, k < N → parseFieldDescriptor (T k).2.2.1 = some (ty0 k)) (hnm : ∀ a, a < N → ∀ b, b < N → a ≠ b → (T a).2.1 ≠ (T b).2.1) (hj : j < N) (href : ref = (T j).1) (hw : Cond.fieldLink (xY X).cls idx ref (T j).2.1 (T j).2.2.1 ∈ TBL) (hfin : (T j).2.2.2 = false ∨ ((T j).2.2.2 = true ∧ (xY X).name = "<init>" ∧ (T j).1 = (xY X).cls)) (hdsc : parseFieldDescriptor (T j).2.2.1 = some ty) (htj : fty ci j = ty) (hti : ty = .boolean) (hb01 : v = 0 ∨ v = 1) (hsh : shape kk = some (.inl ci)) (hk : ordK kk < n) (hd : decode (xC X) pc = .ok (.putfield idx, 3)) (k : E l X r fa n (pI σ kk j v) kc ks (pc + 3) L S) : E l X r fa n σ kc ks pc L (.int v :: .ref kk :: S) := by
  intro p e s m args below meth c base b D aC H locs cells slots ls hF hP hS hz hl hc hs
  have hV : fvA (pI σ kk j v) kk j (fty ci j) = .int v := by rw [htj]; subst hti; simp [fvA, gI, pI, u2]
  have hM : meth.name = (xY X).name := hF.2.2.2.2.2.2.2.2.2.2.1
  exact put_core (y := xY X) hF.1 hF.2.1 hF.2.2.2.2.1 hF.2.2.2.2.2.1 hF.2.2.2.2.2.2.2.2.2.2.2.1.1 hP hS hcl hN hin ty0 hty hnm hj href hw (hfin.imp id (fun q => ⟨q.1, hM.trans q.2.1, q.2.2⟩)) hsh hk hdsc (by subst hti; rcases hb01 with rfl | rfl <;> rfl) (by subst hti; rcases hb01 with rfl | rfl <;> rfl) offK_I hV (fun i hi => fvA_I (fun q => hi q.2)) hd (fun H1 locs1 hP1 hS1 e2 => (k p e s m args below meth c base b D aC H1 locs1 cells slots ls hF hP1 hS1 (fun q => e2.trans (hz q)) hl hc hs))
theorem E_putL {ci idx N j : Nat} {C ref : String} {T : u_T} {ty : FieldType} {v : Int64} (kk : Nat) (ty0 : Nat → FieldType) (hcl : vwCl[ci]? = some (C, T, N)) (hN : nF ci = N) (hin : ∀ w ∈ u_ws C T N, w ∈ TBL) (hty : ∀ k, k < N → parseFieldDescriptor (T k).2.2.1 = some (ty0 k)) (hnm : ∀ a, a < N → ∀ b, b < N → a ≠ b → (T a).2.1 ≠ (T b).2.1) (hj : j < N) (href : ref = (T j).1) (hw : Cond.fieldLink (xY X).cls idx ref (T j).2.1 (T j).2.2.1 ∈ TBL) (hfin : (T j).2.2.2 = false ∨ ((T j).2.2.2 = true ∧ (xY X).name = "<init>" ∧ (T j).1 = (xY X).cls)) (hdsc : parseFieldDescriptor (T j).2.2.1 = some ty) (htj : fty ci j = ty) (hti : ty = .long) (hsh : shape kk = some (.inl ci)) (hk : ordK kk < n) (hd : decode (xC X) pc = .ok (.putfield idx, 3)) (k : E l X r fa n (pL σ kk j v) kc ks (pc + 3) L S) : E l X r fa n σ kc ks pc L (.long v :: .ref kk :: S) := by
  intro p e s m args below meth c base b D aC H locs cells slots ls hF hP hS hz hl hc hs
  have hV : fvA (pL σ kk j v) kk j (fty ci j) = .long v := by rw [htj]; subst hti; simp [fvA, gL, pL, u2]
  have hM : meth.name = (xY X).name := hF.2.2.2.2.2.2.2.2.2.2.1
  exact put_core (y := xY X) hF.1 hF.2.1 hF.2.2.2.2.1 hF.2.2.2.2.2.1 hF.2.2.2.2.2.2.2.2.2.2.2.1.1 hP hS hcl hN hin ty0 hty hnm hj href hw (hfin.imp id (fun q => ⟨q.1, hM.trans q.2.1, q.2.2⟩)) hsh hk hdsc (by subst hti; rfl) (by subst hti; rfl) offK_L hV (fun i hi => fvA_L (fun q => hi q.2)) hd (fun H1 locs1 hP1 hS1 e2 => (k p e s m args below meth c base b D aC H1 locs1 cells slots ls hF hP1 hS1 (fun q => e2.trans (hz q)) hl hc hs))
theorem E_putR {ci idx N j : Nat} {C ref : String} {T : u_T} {ty : FieldType} {v : Nat} (kk : Nat) (ty0 : Nat → FieldType) (hcl : vwCl[ci]? = some (C, T, N)) (hN : nF ci = N) (hin : ∀ w ∈ u_ws C T N, w ∈ TBL) (hty : ∀ k, k < N → parseFieldDescriptor (T k).2.2.1 = some (ty0 k)) (hnm : ∀ a, a < N → ∀ b, b < N → a ≠ b → (T a).2.1 ≠ (T b).2.1) (hj : j < N) (href : ref = (T j).1) (hw : Cond.fieldLink (xY X).cls idx ref (T j).2.1 (T j).2.2.1 ∈ TBL) (hfin : (T j).2.2.2 = false ∨ ((T j).2.2.2 = true ∧ (xY X).name = "<init>" ∧ (T j).1 = (xY X).cls)) (hdsc : parseFieldDescriptor (T j).2.2.1 = some ty) (htj : fty ci j = ty) (hti : (∃ C', ty = .object C') ∨ ∃ t', ty = .array t') (hsh : shape kk = some (.inl ci)) (hk : ordK kk < n) (hd : decode (xC X) pc = .ok (.putfield idx, 3)) (k : E l X r fa n (pR σ kk j (some v)) kc ks (pc + 3) L S) : E l X r fa n σ kc ks pc L (.ref v :: .ref kk :: S) := by
  intro p e s m args below meth c base b D aC H locs cells slots ls hF hP hS hz hl hc hs
  have hV : fvA (pR σ kk j (some v)) kk j (fty ci j) = .ref v := by rw [htj]; rcases hti with ⟨_, rfl⟩ | ⟨_, rfl⟩ <;> simp [fvA, gR, pR, u2, rfA]
  have hM : meth.name = (xY X).name := hF.2.2.2.2.2.2.2.2.2.2.1
  exact put_core (y := xY X) hF.1 hF.2.1 hF.2.2.2.2.1 hF.2.2.2.2.2.1 hF.2.2.2.2.2.2.2.2.2.2.2.1.1 hP hS hcl hN hin ty0 hty hnm hj href hw (hfin.imp id (fun q => ⟨q.1, hM.trans q.2.1, q.2.2⟩)) hsh hk hdsc (by rcases hti with ⟨_, rfl⟩ | ⟨_, rfl⟩ <;> rfl) (by rcases hti with ⟨_, rfl⟩ | ⟨_, rfl⟩ <;> rfl) offK_R hV (fun i hi => fvA_R (fun q => hi q.2)) hd (fun H1 locs1 hP1 hS1 e2 => (k p e s m args below meth c base b D aC H1 locs1 cells slots ls hF hP1 hS1 (fun q => e2.trans (hz q)) hl hc hs))
theorem E_iald {N : Nat} {i : Int32} (kk : Nat) (hsh : shape kk = some (.inr (0, N))) (hk : ordK kk < n) (hin : vp_in i N) (hd : decode (xC X) pc = .ok (.iaload, 1)) (k : E l X r fa n σ kc ks (pc + 1) L (.int (gI σ kk i.toNatClampNeg) :: S)) : E l X r fa n σ kc ks pc L (.int i :: .ref kk :: S) := by
  intro p e s m args below meth c base b D aC H locs cells slots ls hF hP hS hz hl hc hs
  have hg := Wd_get (base := base) (b := b) (aC := aC) (σ := σ) hsh hk
  rw [cellE_a hsh] at hg
  exact va_iald hF.1 hF.2.1 hF.2.2.2.2.2.2.2.2.2.2.2.1.1 hP (ordK kk) 0 hg rfl hin hd (k p e s m args below meth c base b D aC H locs cells slots ls hF hP hS hz hl hc hs)
theorem E_lald {N : Nat} {i : Int32} (kk : Nat) (hsh : shape kk = some (.inr (1, N))) (hk : ordK kk < n) (hin : vp_in i N) (hd : decode (xC X) pc = .ok (.laload, 1)) (k : E l X r fa n σ kc ks (pc + 1) L (.long (gL σ kk i.toNatClampNeg) :: S)) : E l X r fa n σ kc ks pc L (.int i :: .ref kk :: S) := by
  intro p e s m args below meth c base b D aC H locs cells slots ls hF hP hS hz hl hc hs
  have hg := Wd_get (base := base) (b := b) (aC := aC) (σ := σ) hsh hk
  rw [cellE_a hsh] at hg
  exact va_lald hF.1 hF.2.1 hF.2.2.2.2.2.2.2.2.2.2.2.1.1 hP (ordK kk) 1 hg rfl hin hd (k p e s m args below meth c base b D aC H locs cells slots ls hF hP hS hz hl hc hs)
theorem E_cald {N : Nat} {i : Int32} (kk : Nat) (hsh : shape kk = some (.inr (2, N))) (hk : ordK kk < n) (hin : vp_in i N) (hd : decode (xC X) pc = .ok (.caload, 1)) (k : E l X r fa n σ kc ks (pc + 1) L (.int (gI σ kk i.toNatClampNeg) :: S)) : E l X r fa n σ kc ks pc L (.int i :: .ref kk :: S) := by
  intro p e s m args below meth c base b D aC H locs cells slots ls hF hP hS hz hl hc hs
  have hg := Wd_get (base := base) (b := b) (aC := aC) (σ := σ) hsh hk
  rw [cellE_a hsh] at hg
  exact va_cald hF.1 hF.2.1 hF.2.2.2.2.2.2.2.2.2.2.2.1.1 hP (ordK kk) 2 hg rfl hin hd (k p e s m args below meth c base b D aC H locs cells slots ls hF hP hS hz hl hc hs)
theorem E_dald {N : Nat} {i : Int32} (kk : Nat) (hsh : shape kk = some (.inr (3, N))) (hk : ordK kk < n) (hin : vp_in i N) (hd : decode (xC X) pc = .ok (.daload, 1)) (k : E l X r fa n σ kc ks (pc + 1) L (.double (gD σ kk i.toNatClampNeg) :: S)) : E l X r fa n σ kc ks pc L (.int i :: .ref kk :: S) := by
  intro p e s m args below meth c base b D aC H locs cells slots ls hF hP hS hz hl hc hs
  have hg := Wd_get (base := base) (b := b) (aC := aC) (σ := σ) hsh hk
  rw [cellE_a hsh] at hg
  exact va_dald hF.1 hF.2.1 hF.2.2.2.2.2.2.2.2.2.2.2.1.1 hP (ordK kk) 3 hg rfl hin hd (k p e s m args below meth c base b D aC H locs cells slots ls hF hP hS hz hl hc hs)
theorem E_aald {t N : Nat} {i : Int32} {v : Nat} (kk : Nat) (ht : 4 ≤ t ∧ t < 8) (hsh : shape kk = some (.inr (t, N))) (hk : ordK kk < n) (hin : vp_in i N) (hv : gR σ kk i.toNatClampNeg = some v) (hd : decode (xC X) pc = .ok (.aaload, 1)) (k : E l X r fa n σ kc ks (pc + 1) L (.ref v :: S)) : E l X r fa n σ kc ks pc L (.int i :: .ref kk :: S) := by
  intro p e s m args below meth c base b D aC H locs cells slots ls hF hP hS hz hl hc hs
  have hg := Wd_get (base := base) (b := b) (aC := aC) (σ := σ) hsh hk
  rw [cellE_a hsh] at hg
  have hk9 := (k p e s m args below meth c base b D aC H locs cells slots ls hF hP hS hz hl hc hs)
  have e : cvS base b (.ref v :: S) = va_rf ((gR σ kk i.toNatClampNeg).map (adK base b)) :: cvS base b S := by rw [hv]; rfl
  rw [e] at hk9
  rcases (show t = 4 ∨ t = 5 ∨ t = 6 ∨ t = 7 by omega) with rfl | rfl | rfl | rfl
  · exact va_aldq hF.1 hF.2.1 hF.2.2.2.2.2.2.2.2.2.2.2.1.1 hP (ordK kk) 4 hg rfl hin hd hk9
  · exact va_aldq hF.1 hF.2.1 hF.2.2.2.2.2.2.2.2.2.2.2.1.1 hP (ordK kk) 5 hg rfl hin hd hk9
  · exact va_aldq hF.1 hF.2.1 hF.2.2.2.2.2.2.2.2.2.2.2.1.1 hP (ordK kk) 6 hg rfl hin hd hk9
  · exact va_aldq hF.1 hF.2.1 hF.2.2.2.2.2.2.2.2.2.2.2.1.1 hP (ordK kk) 7 hg rfl hin hd hk9
theorem E_alen {t N : Nat} (kk : Nat) (ht : t < 8) (hsh : shape kk = some (.inr (t, N))) (hk : ordK kk < n) (hd : decode (xC X) pc = .ok (.arraylength, 1)) (k : E l X r fa n σ kc ks (pc + 1) L (.int (nI N) :: S)) : E l X r fa n σ kc ks pc L (.ref kk :: S) := by
  intro p e s m args below meth c base b D aC H locs cells slots ls hF hP hS hz hl hc hs
  have hg := Wd_get (base := base) (b := b) (aC := aC) (σ := σ) hsh hk
  rw [cellE_a hsh] at hg
  rcases (show t = 0 ∨ t = 1 ∨ t = 2 ∨ t = 3 ∨ t = 4 ∨ t = 5 ∨ t = 6 ∨ t = 7 by omega) with rfl | rfl | rfl | rfl | rfl | rfl | rfl | rfl
  · exact va_alen hF.1 hF.2.1 hF.2.2.2.2.2.2.2.2.2.2.2.1.1 hP (ordK kk) 0 hg rfl rfl hd (k p e s m args below meth c base b D aC H locs cells slots ls hF hP hS hz hl hc hs)
  · exact va_alen hF.1 hF.2.1 hF.2.2.2.2.2.2.2.2.2.2.2.1.1 hP (ordK kk) 1 hg rfl rfl hd (k p e s m args below meth c base b D aC H locs cells slots ls hF hP hS hz hl hc hs)
  · exact va_alen hF.1 hF.2.1 hF.2.2.2.2.2.2.2.2.2.2.2.1.1 hP (ordK kk) 2 hg rfl rfl hd (k p e s m args below meth c base b D aC H locs cells slots ls hF hP hS hz hl hc hs)
  · exact va_alen hF.1 hF.2.1 hF.2.2.2.2.2.2.2.2.2.2.2.1.1 hP (ordK kk) 3 hg rfl rfl hd (k p e s m args below meth c base b D aC H locs cells slots ls hF hP hS hz hl hc hs)
  · exact va_alen hF.1 hF.2.1 hF.2.2.2.2.2.2.2.2.2.2.2.1.1 hP (ordK kk) 4 hg rfl rfl hd (k p e s m args below meth c base b D aC H locs cells slots ls hF hP hS hz hl hc hs)
  · exact va_alen hF.1 hF.2.1 hF.2.2.2.2.2.2.2.2.2.2.2.1.1 hP (ordK kk) 5 hg rfl rfl hd (k p e s m args below meth c base b D aC H locs cells slots ls hF hP hS hz hl hc hs)
  · exact va_alen hF.1 hF.2.1 hF.2.2.2.2.2.2.2.2.2.2.2.1.1 hP (ordK kk) 6 hg rfl rfl hd (k p e s m args below meth c base b D aC H locs cells slots ls hF hP hS hz hl hc hs)
  · exact va_alen hF.1 hF.2.1 hF.2.2.2.2.2.2.2.2.2.2.2.1.1 hP (ordK kk) 7 hg rfl rfl hd (k p e s m args below meth c base b D aC H locs cells slots ls hF hP hS hz hl hc hs)
theorem arE_off {base b : Nat} {σ σ' : Mem} {kk t : Nat} : arE base b σ kk t = arE base b σ kk t := rfl
theorem E_iast {N : Nat} {i : Int32} {v : Int32} (kk : Nat) (hsh : shape kk = some (.inr (0, N))) (hk : ordK kk < n) (hin : vp_in i N) (hd : decode (xC X) pc = .ok (.iastore, 1)) (k : E l X r fa n (pI σ kk i.toNatClampNeg v) kc ks (pc + 1) L S) : E l X r fa n σ kc ks pc L (.int v :: .int i :: .ref kk :: S) := by
  intro p e s m args below meth c base b D aC H locs cells slots ls hF hP hS hz hl hc hs
  have hg := Wd_get (base := base) (b := b) (aC := aC) (σ := σ) hsh hk
  rw [cellE_a hsh] at hg
  have hD : va_D (fr base) (Wd base b aC n σ) := Wd_D
  refine W.iast hF.1 hF.2.1 (hP (ordK kk) _ hg) ((hF.2.2.2.2.2.2.2.2.2.2.2.1.1.2 0 _ rfl).1 N (fun j => .int (gI σ kk j))) (fun q => by cases q) (by show ¬ (i < 0 ∨ (arrV _ _ _).slots.size ≤ _); rw [arrV_size]; exact hin) rfl rfl hd fun H1 e1 z oq => ?_
  have h9 := hP.set (e := .inl (aC 0, N, arE base b (pI σ kk i.toNatClampNeg v) kk 0)) hD hg (H1 := H1) (by
    show H1[adK base b kk]? = some (vp_cell _ _)
    rw [e1]
    exact congrArg some (by
      show (arrV (aC 0) N (fun j => .int (gI σ kk j))).setSlot i.toNatClampNeg _ = arrV (aC 0) N (fun j => .int (gI (pI σ kk i.toNatClampNeg v) kk j))
      first | rw [arrV_store] | (simp only [vp_nar]; rw [arrV_store])
      congr 1
      funext q
      by_cases hq : q = i.toNatClampNeg
      · subst hq
        simp [updV, gI, pI, u2, vp_nar]
        try rfl
      · simp [updV, gI, pI, u2, hq])) oq
  rw [Wd_set (σ' := pI σ kk i.toNatClampNeg v) hsh hk (by rw [cellE_a hsh]) (fun j hj => cellE_off offK_I hj)] at h9
  exact (k p e s m args below meth c base b D aC H1 _ cells slots ls hF h9 (hS.put z oq (by rw [adK_sh hsh]; exact Nat.le_add_right _ _)) (fun q => z.trans (hz q)) hl hc hs)
theorem E_cast {N : Nat} {i : Int32} {v : Int32} (kk : Nat) (hsh : shape kk = some (.inr (2, N))) (hk : ordK kk < n) (hin : vp_in i N) (hd : decode (xC X) pc = .ok (.castore, 1)) (k : E l X r fa n (pI σ kk i.toNatClampNeg (vp_nar .char v)) kc ks (pc + 1) L S) : E l X r fa n σ kc ks pc L (.int v :: .int i :: .ref kk :: S) := by
  intro p e s m args below meth c base b D aC H locs cells slots ls hF hP hS hz hl hc hs
  have hg := Wd_get (base := base) (b := b) (aC := aC) (σ := σ) hsh hk
  rw [cellE_a hsh] at hg
  have hD : va_D (fr base) (Wd base b aC n σ) := Wd_D
  refine W.cast hF.1 hF.2.1 (hP (ordK kk) _ hg) ((hF.2.2.2.2.2.2.2.2.2.2.2.1.1.2 2 _ rfl).1 N (fun j => .int (gI σ kk j))) (fun q => by cases q) (by show ¬ (i < 0 ∨ (arrV _ _ _).slots.size ≤ _); rw [arrV_size]; exact hin) rfl rfl hd fun H1 e1 z oq => ?_
  have h9 := hP.set (e := .inl (aC 2, N, arE base b (pI σ kk i.toNatClampNeg (vp_nar .char v)) kk 2)) hD hg (H1 := H1) (by
    show H1[adK base b kk]? = some (vp_cell _ _)
    rw [e1]
    exact congrArg some (by
      show (arrV (aC 2) N (fun j => .int (gI σ kk j))).setSlot i.toNatClampNeg _ = arrV (aC 2) N (fun j => .int (gI (pI σ kk i.toNatClampNeg (vp_nar .char v)) kk j))
      first | rw [arrV_store] | (simp only [vp_nar]; rw [arrV_store])
      congr 1
      funext q
      by_cases hq : q = i.toNatClampNeg
      · subst hq
        simp [updV, gI, pI, u2, vp_nar]
        try rfl
      · simp [updV, gI, pI, u2, hq])) oq
  rw [Wd_set (σ' := pI σ kk i.toNatClampNeg (vp_nar .char v)) hsh hk (by rw [cellE_a hsh]) (fun j hj => cellE_off offK_I hj)] at h9
  exact (k p e s m args below meth c base b D aC H1 _ cells slots ls hF h9 (hS.put z oq (by rw [adK_sh hsh]; exact Nat.le_add_right _ _)) (fun q => z.trans (hz q)) hl hc hs)
theorem E_last {N : Nat} {i : Int32} {v : Int64} (kk : Nat) (hsh : shape kk = some (.inr (1, N))) (hk : ordK kk < n) (hin : vp_in i N) (hd : decode (xC X) pc = .ok (.lastore, 1)) (k : E l X r fa n (pL σ kk i.toNatClampNeg v) kc ks (pc + 1) L S) : E l X r fa n σ kc ks pc L (.long v :: .int i :: .ref kk :: S) := by
  intro p e s m args below meth c base b D aC H locs cells slots ls hF hP hS hz hl hc hs
  have hg := Wd_get (base := base) (b := b) (aC := aC) (σ := σ) hsh hk
  rw [cellE_a hsh] at hg
  have hD : va_D (fr base) (Wd base b aC n σ) := Wd_D
  refine W.last hF.1 hF.2.1 (hP (ordK kk) _ hg) ((hF.2.2.2.2.2.2.2.2.2.2.2.1.1.2 1 _ rfl).1 N (fun j => .long (gL σ kk j))) (fun q => by cases q) (by show ¬ (i < 0 ∨ (arrV _ _ _).slots.size ≤ _); rw [arrV_size]; exact hin) rfl rfl hd fun H1 e1 z oq => ?_
  have h9 := hP.set (e := .inl (aC 1, N, arE base b (pL σ kk i.toNatClampNeg v) kk 1)) hD hg (H1 := H1) (by
    show H1[adK base b kk]? = some (vp_cell _ _)
    rw [e1]
    exact congrArg some (by
      show (arrV (aC 1) N (fun j => .long (gL σ kk j))).setSlot i.toNatClampNeg _ = arrV (aC 1) N (fun j => .long (gL (pL σ kk i.toNatClampNeg v) kk j))
      first | rw [arrV_store] | (simp only [vp_nar]; rw [arrV_store])
      congr 1
      funext q
      by_cases hq : q = i.toNatClampNeg
      · subst hq
        simp [updV, gL, pL, u2, vp_nar]
        try rfl
      · simp [updV, gL, pL, u2, hq])) oq
  rw [Wd_set (σ' := pL σ kk i.toNatClampNeg v) hsh hk (by rw [cellE_a hsh]) (fun j hj => cellE_off offK_L hj)] at h9
  exact (k p e s m args below meth c base b D aC H1 _ cells slots ls hF h9 (hS.put z oq (by rw [adK_sh hsh]; exact Nat.le_add_right _ _)) (fun q => z.trans (hz q)) hl hc hs)
theorem E_dast {N : Nat} {i : Int32} {v : UInt64} (kk : Nat) (hsh : shape kk = some (.inr (3, N))) (hk : ordK kk < n) (hin : vp_in i N) (hd : decode (xC X) pc = .ok (.dastore, 1)) (k : E l X r fa n (pD σ kk i.toNatClampNeg v) kc ks (pc + 1) L S) : E l X r fa n σ kc ks pc L (.double v :: .int i :: .ref kk :: S) := by
  intro p e s m args below meth c base b D aC H locs cells slots ls hF hP hS hz hl hc hs
  have hg := Wd_get (base := base) (b := b) (aC := aC) (σ := σ) hsh hk
  rw [cellE_a hsh] at hg
  have hD : va_D (fr base) (Wd base b aC n σ) := Wd_D
  refine W.dast hF.1 hF.2.1 (hP (ordK kk) _ hg) ((hF.2.2.2.2.2.2.2.2.2.2.2.1.1.2 3 _ rfl).1 N (fun j => .double (gD σ kk j))) (fun q => by cases q) (by show ¬ (i < 0 ∨ (arrV _ _ _).slots.size ≤ _); rw [arrV_size]; exact hin) rfl rfl hd fun H1 e1 z oq => ?_
  have h9 := hP.set (e := .inl (aC 3, N, arE base b (pD σ kk i.toNatClampNeg v) kk 3)) hD hg (H1 := H1) (by
    show H1[adK base b kk]? = some (vp_cell _ _)
    rw [e1]
    exact congrArg some (by
      show (arrV (aC 3) N (fun j => .double (gD σ kk j))).setSlot i.toNatClampNeg _ = arrV (aC 3) N (fun j => .double (gD (pD σ kk i.toNatClampNeg v) kk j))
      first | rw [arrV_store] | (simp only [vp_nar]; rw [arrV_store])
      congr 1
      funext q
      by_cases hq : q = i.toNatClampNeg
      · subst hq
        simp [updV, gD, pD, u2, vp_nar]
        try rfl
      · simp [updV, gD, pD, u2, hq])) oq
  rw [Wd_set (σ' := pD σ kk i.toNatClampNeg v) hsh hk (by rw [cellE_a hsh]) (fun j hj => cellE_off offK_D hj)] at h9
  exact (k p e s m args below meth c base b D aC H1 _ cells slots ls hF h9 (hS.put z oq (by rw [adK_sh hsh]; exact Nat.le_add_right _ _)) (fun q => z.trans (hz q)) hl hc hs)
theorem E_aast {t N ci : Nat} {q9 : vw_C} {i : Int32} {v : Nat} (kk : Nat) (hcl : vwCl[ci]? = some q9) (h4 : (t = 4 ∧ q9.1 = RX4) ∨ (t = 5 ∧ q9.1 = RX3) ∨ (t = 6 ∧ q9.1 = RX6) ∨ (t = 7 ∧ q9.1 = RX1)) (hsh : shape kk = some (.inr (t, N))) (hk : ordK kk < n) (hsv : shape v = some (.inl ci)) (hkv : ordK v < n) (hin : vp_in i N) (hd : decode (xC X) pc = .ok (.aastore, 1)) (k : E l X r fa n (pR σ kk i.toNatClampNeg (some v)) kc ks (pc + 1) L S) : E l X r fa n σ kc ks pc L (.ref v :: .int i :: .ref kk :: S) := by
  intro p e s m args below meth c base b D aC H locs cells slots ls hF hP hS hz hl hc hs
  have hg := Wd_get (base := base) (b := b) (aC := aC) (σ := σ) hsh hk
  rw [cellE_a hsh] at hg
  have hgv := Wd_get (base := base) (b := b) (aC := aC) (σ := σ) hsv hkv
  rw [cellE_o hsv] at hgv
  have hD : va_D (fr base) (Wd base b aC n σ) := Wd_D
  have hK := hF.2.2.2.2.2.2.2.2.2.2.2.1.1
  have hlt : i.toNatClampNeg < N := Nat.not_le.mp fun q => hin (Or.inr q)
  have h0 : ¬ i < 0 := fun q => hin (Or.inl q)
  have ht : (tysA aC)[t]? = some (aC t, .object q9.1) := by rcases h4 with ⟨rfl, e⟩ | ⟨rfl, e⟩ | ⟨rfl, e⟩ | ⟨rfl, e⟩ <;> rw [e] <;> rfl
  have ha : arE base b σ kk t = .inr (.inr (.inr (.inr (fun j => (gR σ kk j).map (adK base b))))) := by rcases h4 with ⟨rfl, e⟩ | ⟨rfl, e⟩ | ⟨rfl, e⟩ | ⟨rfl, e⟩ <;> rfl
  have ha' : arE base b (pR σ kk i.toNatClampNeg (some v)) kk t = .inr (.inr (.inr (.inr (fun j => (gR (pR σ kk i.toNatClampNeg (some v)) kk j).map (adK base b))))) := by rcases h4 with ⟨rfl, e⟩ | ⟨rfl, e⟩ | ⟨rfl, e⟩ | ⟨rfl, e⟩ <;> rfl
  rw [ha] at hg
  obtain ⟨r', hr', cellV, g1, g2, g3, -⟩ := hP (ordK v) _ hgv
  have hcls := (hK.1 ci q9 hcl).2
  obtain ⟨kA, comp, k1, k2, k3, -⟩ := (hK.2 t _ ht).2
  have hcomp : comp = D.1 ci := Option.some.inj (k3.symm.trans hcls.1)
  subst hcomp
  obtain ⟨kC, hkC, -⟩ := hcls.2
  have hne : r' = q9 := Option.some.inj (hr'.symm.trans hcl)
  refine W.aast hF.1 hF.2.1 (hP (ordK kk) _ hg) (fun q h => by cases h) (fun h => by cases h) k1 k2 rfl hkC ⟨h0, by show _ < (arrV _ _ _).slots.size; rw [arrV_size]; exact hlt⟩ g1 (fun q h => by rw [g3] at h; cases h) (by rw [g2]; exact hkC) (by rw [g2]; exact va_assign hcls) rfl rfl hd fun H1 e1 z oq => ?_
  have h9 := hP.set (e := .inl (aC t, N, arE base b (pR σ kk i.toNatClampNeg (some v)) kk t)) hD hg (H1 := H1) (by
    show H1[adK base b kk]? = some (vp_cell _ _)
    rw [e1, ha']
    exact congrArg some (by
      rw [vp_cell_q, vp_cell_q, arrV_store]
      congr 1
      funext q
      by_cases hq : q = i.toNatClampNeg
      · subst hq
        simp [updV, gR, pR, u2, va_rf]
      · simp [updV, gR, pR, u2, hq])) oq
  rw [Wd_set (σ' := pR σ kk i.toNatClampNeg (some v)) hsh hk (by rw [cellE_a hsh]) (fun j hj => cellE_off offK_R hj)] at h9
  exact (k p e s m args below meth c base b D aC H1 _ cells slots ls hF h9 (hS.put z oq (by rw [adK_sh hsh]; exact Nat.le_add_right _ _)) (fun q => z.trans (hz q)) hl hc hs)
theorem E_new {ci idx N kk : Nat} {C : String} {T : u_T} (ty0 : Nat → FieldType) (hcl : vwCl[ci]? = some (C, T, N)) (hN : nF ci = N) (hin : ∀ w ∈ u_ws C T N, w ∈ TBL) (hty : ∀ k, k < N → parseFieldDescriptor (T k).2.2.1 = some (ty0 k)) (hwl : Cond.classLink (xY X).cls idx C ∈ TBL) (hwi : Cond.instantiable C N ∈ TBL) (hwn : Cond.initialized C ∈ TBL) (hfa : fa = true) (hid : idK n = kk) (hor : ordK kk = n) (hsh : shape kk = some (.inl ci)) (hz0 : ∀ j, j < N → fvA σ kk j (fty ci j) = defaultValue (ty0 j)) (hdv : ∀ j, j < N → cv 0 0 (defaultValue (ty0 j)) = defaultValue (ty0 j) ∧ ∀ q, defaultValue (ty0 j) ≠ .ref q) (hd : decode (xC X) pc = .ok (.new idx, 3)) (k : E l X r fa (n + 1) σ kc ks (pc + 3) L (.ref kk :: S)) : E l X r fa n σ (kc + 1) (ks + N) pc L S := by
  intro p e s m args below meth c base b D aC H locs cells slots ls hF hP hS hz hl hc hs
  have hK := hF.2.2.2.2.2.2.2.2.2.2.2.1.1
  have hts := hF.2.2.2.2.2.1
  have hKn := hK.1 ci _ hcl
  have hz' := hz hfa
  refine W.newcK hF.1 hF.2.1 hF.2.2.2.2.1 (hts _ hwl) (hts _ hwi) (hts _ hwn) rfl hd (by omega) (by omega) hKn.2.1 rfl fun H1 kC hkC e1 z1 o1 => ?_
  have hk : ∀ (k : Nat) (x : Nat × va_E), (Wd base b aC n σ)[k]? = some x → H1[x.1]? = H[x.1]? := fun k x hx => o1 x.1 ((hP k x hx).lt)
  have hcv : ∀ v : Value, (∀ q, v ≠ .ref q) → cv base b v = v := fun v hv => by cases v <;> first | rfl | exact absurd rfl (hv _)
  have hP1 : va_P D vwCl (Wd base b aC (n + 1) σ) H1 := by
    rw [← Wd_push (e := .inr (ci, fsE base b σ kk ci)) (by rw [hid, cellE_o hsh])]
    refine (hP.kept hk).app (fun k x hx => ?_)
    have hz : k < 1 := (List.getElem?_eq_some_iff.mp hx).1
    rw [show k = 0 by omega] at hx
    cases hx
    rw [← hz']
    refine ⟨_, hcl, (u_born ty0 hts hin hKn hkC e1 hty).to (fun j hj => ?_)⟩
    show _ = (fsE base b σ kk ci).getD j .null
    rw [List.getD_eq_getElem?_getD, fsE_get (by rw [hN]; exact hj), hz0 j hj, hcv _ (hdv j hj).2]
    rfl
  have hk9 := (k p e s m args below meth c base b D aC H1 locs (cells + 1) (slots + N) ls hF hP1 ⟨Nat.le_trans hS.1 (by omega), fun x h1 h2 => (o1 x (Nat.lt_of_lt_of_le h1 hS.1)).trans (hS.2.1 x h1 h2), hS.2.2⟩ (fun _ => by rw [z1, hz']; omega) hl (by omega) (by omega))
  have e : cvS base b (.ref kk :: S) = .ref H.size :: cvS base b S := by show Value.ref (adK base b kk) :: _ = _; rw [adK_sh hsh, hor, hz']; rfl
  rw [e] at hk9
  exact hk9
theorem E_newa {t N kk : Nat} {atype : ArrayType} {ty : FieldType} {nn : Int32} (hty : newarray.typeOf atype = ty) (ht : (t = 0 ∧ ty = .int) ∨ (t = 1 ∧ ty = .long) ∨ (t = 2 ∧ ty = .char) ∨ (t = 3 ∧ ty = .double)) (hw : Cond.arrayClass ty ∈ TBL) (hn0 : ¬ nn < 0) (hnN : nn.toNatClampNeg = N) (hN9 : N ≤ 100000) (hfa : fa = true) (hid : idK n = kk) (hor : ordK kk = n) (hsh : shape kk = some (.inr (t, N))) (hz0 : ∀ j, gI σ kk j = 0 ∧ gL σ kk j = 0 ∧ gD σ kk j = 0) (hd : decode (xC X) pc = .ok (.newarray atype, 2)) (k : E l X r fa (n + 1) σ kc ks (pc + 2) L (.ref kk :: S)) : E l X r fa n σ (kc + 1) (ks + N) pc L (.int nn :: S) := by
  intro p e s m args below meth c base b D aC H locs cells slots ls hF hP hS hz hl hc hs
  have hK := hF.2.2.2.2.2.2.2.2.2.2.2.1.1
  have hts := hF.2.2.2.2.2.1
  have hz' := hz hfa
  subst hty
  have hb4 : N * componentBytes (newarray.typeOf atype) ≤ 536870912 := by
    rcases ht with ⟨-, e⟩ | ⟨-, e⟩ | ⟨-, e⟩ | ⟨-, e⟩ <;> rw [e] <;> simp only [componentBytes] <;> omega
  refine va_newaK hF.1 hF.2.1 (hts _ hw) rfl hd rfl hn0 hnN hb4 (by omega) (by omega) rfl fun H1 cA e1 z1 o1 hAr hNm => ?_
  have hk : ∀ (k : Nat) (x : Nat × va_E), (Wd base b aC n σ)[k]? = some x → H1[x.1]? = H[x.1]? := fun k x hx => o1 x.1 ((hP k x hx).lt)
  have f1 : gI σ kk = fun _ => 0 := funext fun i => (hz0 i).1
  have f2 : gL σ kk = fun _ => 0 := funext fun i => (hz0 i).2.1
  have f3 : gD σ kk = fun _ => 0 := funext fun i => (hz0 i).2.2
  have hcell : cA = aC t ∧ vp_cell (aC t) (N, arE base b σ kk t) = arrV (aC t) N (fun _ => defaultValue (newarray.typeOf atype)) := by
    rcases ht with ⟨rfl, e⟩ | ⟨rfl, e⟩ | ⟨rfl, e⟩ | ⟨rfl, e⟩
    · have h2 := (hK.2 0 _ rfl).2
      rw [e] at hNm ⊢
      exact ⟨Option.some.inj (hNm.symm.trans h2), by show vp_cell _ (N, Sum.inl (gI σ kk)) = _; rw [f1]; rfl⟩
    · have h2 := (hK.2 1 _ rfl).2
      rw [e] at hNm ⊢
      exact ⟨Option.some.inj (hNm.symm.trans h2), by show vp_cell _ (N, Sum.inr (Sum.inl (gL σ kk))) = _; rw [f2]; rfl⟩
    · have h2 := (hK.2 2 _ rfl).2
      rw [e] at hNm ⊢
      exact ⟨Option.some.inj (hNm.symm.trans h2), by show vp_cell _ (N, Sum.inl (gI σ kk)) = _; rw [f1]; rfl⟩
    · have h2 := (hK.2 3 _ rfl).2
      rw [e] at hNm ⊢
      exact ⟨Option.some.inj (hNm.symm.trans h2), by show vp_cell _ (N, Sum.inr (Sum.inr (Sum.inr (Sum.inl (gD σ kk))))) = _; rw [f3]; rfl⟩
  obtain ⟨hcA, hcell⟩ := hcell
  subst hcA
  have hP1 : va_P D vwCl (Wd base b aC (n + 1) σ) H1 := by
    rw [← Wd_push (e := .inl (aC t, N, arE base b σ kk t)) (by rw [hid, cellE_a hsh])]
    refine (hP.kept hk).app (fun k x hx => ?_)
    have hz : k < 1 := (List.getElem?_eq_some_iff.mp hx).1
    rw [show k = 0 by omega] at hx
    cases hx
    rw [← hz']
    show H1[H.size]? = some (vp_cell _ _)
    rw [hcell]
    exact e1
  have hk9 := (k p e s m args below meth c base b D aC H1 locs (cells + 1) (slots + N) ls hF hP1 ⟨Nat.le_trans hS.1 (by omega), fun x h1 h2 => (o1 x (Nat.lt_of_lt_of_le h1 hS.1)).trans (hS.2.1 x h1 h2), hS.2.2⟩ (fun _ => by rw [z1, hz']; omega) hl (by omega) (by omega))
  have e : cvS base b (.ref kk :: S) = .ref H.size :: cvS base b S := by show Value.ref (adK base b kk) :: _ = _; rw [adK_sh hsh, hor, hz']; rfl
  rw [e] at hk9
  exact hk9
theorem E_newq {t N kk idx : Nat} {C : String} {nn : Int32} (ht : (t = 4 ∧ C = RX4) ∨ (t = 5 ∧ C = RX3) ∨ (t = 6 ∧ C = RX6) ∨ (t = 7 ∧ C = RX1)) (hw : Cond.classLink (xY X).cls idx C ∈ TBL) (hwo : C ∈ AOL) (hn0 : ¬ nn < 0) (hnN : nn.toNatClampNeg = N) (hN9 : N ≤ 100000) (hfa : fa = true) (hid : idK n = kk) (hor : ordK kk = n) (hsh : shape kk = some (.inr (t, N))) (hz0 : ∀ j, gR σ kk j = none) (hd : decode (xC X) pc = .ok (.anewarray idx, 3)) (k : E l X r fa (n + 1) σ kc ks (pc + 3) L (.ref kk :: S)) : E l X r fa n σ (kc + 1) (ks + N) pc L (.int nn :: S) := by
  intro p e s m args below meth c base b D aC H locs cells slots ls hF hP hS hz hl hc hs
  have hK := hF.2.2.2.2.2.2.2.2.2.2.2.1.1
  have hts := hF.2.2.2.2.2.1
  have hz' := hz hfa
  subst hnN
  refine W.anew hF.1 hF.2.1 hF.2.2.2.2.1 (hts _ hw) (va_AO.use (hF.2.2.2.2.2.2.2.2.2.2.2.1.2.2.2.2.2.2 C hwo)) rfl hd rfl hn0 (by omega) (by omega) (by omega) fun cA kA comp q1 q2 q3 q4 => ?_
  generalize hH1 : H.push ({ cls := cA, slots := Array.replicate nn.toNatClampNeg .null, vm := .none } : Cell) = H1
  have z1 : H1.size = H.size + 1 := by rw [← hH1, Array.size_push]
  have e1 : H1[H.size]? = some (arrV cA nn.toNatClampNeg (fun _ => .null)) := by rw [← hH1, Array.getElem?_push_size, ← arrV_new]
  have o1 : ∀ q : Nat, q < H.size → H1[q]? = H[q]? := fun q hq => by rw [← hH1, Array.getElem?_push, if_neg (Nat.ne_of_lt hq)]
  have hk : ∀ (k : Nat) (x : Nat × va_E), (Wd base b aC n σ)[k]? = some x → H1[x.1]? = H[x.1]? := fun k x hx => o1 x.1 ((hP k x hx).lt)
  have hcA : cA = aC t := by
    have ht2 : (tysA aC)[t]? = some (aC t, .object C) := by rcases ht with ⟨rfl, e⟩ | ⟨rfl, e⟩ | ⟨rfl, e⟩ | ⟨rfl, e⟩ <;> rw [e] <;> rfl
    obtain ⟨_, _, _, _, _, h4⟩ := (hK.2 t _ ht2).2
    exact Option.some.inj (q1.symm.trans h4)
  subst hcA
  have ha : arE base b σ kk t = .inr (.inr (.inr (.inr (fun _ => none)))) := by
    have f : (fun j => (gR σ kk j).map (adK base b)) = fun _ => none := funext fun j => by rw [hz0 j]; rfl
    rcases ht with ⟨rfl, e⟩ | ⟨rfl, e⟩ | ⟨rfl, e⟩ | ⟨rfl, e⟩ <;> (show Sum.inr (Sum.inr (Sum.inr (Sum.inr (fun j => (gR σ kk j).map (adK base b))))) = _; rw [f])
  have hP1 : va_P D vwCl (Wd base b aC (n + 1) σ) H1 := by
    rw [← Wd_push (e := .inl (aC t, nn.toNatClampNeg, arE base b σ kk t)) (by rw [hid, cellE_a hsh])]
    refine (hP.kept hk).app (fun k x hx => ?_)
    have hz : k < 1 := (List.getElem?_eq_some_iff.mp hx).1
    rw [show k = 0 by omega] at hx
    cases hx
    rw [← hz', ha]
    exact e1
  have hk9 := (k p e s m args below meth c base b D aC H1 locs (cells + 1) (slots + nn.toNatClampNeg) ls hF hP1 ⟨Nat.le_trans hS.1 (by omega), fun x h1 h2 => (o1 x (Nat.lt_of_lt_of_le h1 hS.1)).trans (hS.2.1 x h1 h2), hS.2.2⟩ (fun _ => by rw [z1, hz']; omega) hl (by omega) (by omega))
  have e : cvS base b (.ref kk :: S) = .ref H.size :: cvS base b S := by show Value.ref (adK base b kk) :: _ = _; rw [adK_sh hsh, hor, hz']; rfl
  rw [e] at hk9
  exact hk9
theorem E_objInit {idx kk : Nat} (hw : Cond.methodLink (xY X).cls idx Lib.objectInit ∈ TBL) (hw2 : Cond.instanceMethod Lib.objectInit ∈ TBL) (hw3 : Cond.code Lib.objectInit ⟨#[0xb1]⟩ 1 none ∈ TBL) (hR : 1 ≤ (xR X).frames ∧ 20 ≤ (xR X).locals) (hS8 : (S.map fun v => v.category).sum ≤ 8) (hd : decode (xC X) pc = .ok (.invokespecial idx, 3)) (k : E l X r fa n σ kc ks (pc + 3) L S) : E l X r fa n σ kc ks pc L (.ref kk :: S) := by
  intro p e s m args below meth c base b D aC H locs cells slots ls hF hP hS hz hl hc hs
  have hts := hF.2.2.2.2.2.1
  refine W.objInit hF.1 hF.2.1 hF.2.2.2.2.1 (hts _ hw) (hts _ hw2) (hts _ hw3) rfl (by rw [hF.2.2.1]; exact hl.1) rfl hd hR.1 (by have h9 := cvS_sum (base := base) (b := b) S; unfold cvS at h9; show 2 * 0 + _ + 12 ≤ _; omega) (k p e s m args below meth c base b D aC H locs cells slots ls hF hP hS hz hl hc hs)
end ER2
