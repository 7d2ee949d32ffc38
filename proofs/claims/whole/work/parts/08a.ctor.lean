def Z0 (σ : Mem) (k : Nat) : Prop := ∀ j, gI σ k j = 0 ∧ gL σ k j = 0 ∧ gR σ k j = none ∧ gD σ k j = 0
def Zf (n : Nat) (σ : Mem) : Prop := ∀ k, shape k ≠ none → n ≤ ordK k → Z0 σ k
theorem Z0_a {σ : Mem} {k : Nat} (h : Z0 σ k) (j : Nat) : gI σ k j = 0 ∧ gL σ k j = 0 ∧ gD σ k j = 0 := ⟨(h j).1, (h j).2.1, (h j).2.2.2⟩
theorem Zf_at {n k : Nat} {σ : Mem} {x : Shp} (h : Zf n σ) (hs : shape k = some x) (hk : n ≤ ordK k) : Z0 σ k := h k (by rw [hs]; exact fun q => by cases q) hk
theorem Zf_up {n : Nat} {σ : Mem} (h : Zf n σ) : Zf (n + 1) σ := fun k hs hk => h k hs (by omega)
theorem Zf_le {n n' : Nat} {σ : Mem} (hn : n ≤ n') (h : Zf n σ) : Zf n' σ := fun k hs hk => h k hs (by omega)
theorem Zf_I {n k j : Nat} {σ : Mem} {v : Int32} (hk : ordK k < n) (h : Zf n σ) : Zf n (pI σ k j v) := fun k' hs hk' i => by
  have h9 := offK_I (σ := σ) (k := k) (j := j) (v := v) k' (fun e => by rw [e] at hk'; omega) i
  rw [h9.1, h9.2.1, h9.2.2.1, h9.2.2.2]
  exact h k' hs hk' i
theorem Zf_R {n k j : Nat} {σ : Mem} {v : Option Nat} (hk : ordK k < n) (h : Zf n σ) : Zf n (pR σ k j v) := fun k' hs hk' i => by
  have h9 := offK_R (σ := σ) (k := k) (j := j) (v := v) k' (fun e => by rw [e] at hk'; omega) i
  rw [h9.1, h9.2.1, h9.2.2.1, h9.2.2.2]
  exact h k' hs hk' i
theorem gR_I {σ : Mem} {k j k' j' : Nat} {v : Int32} : gR (pI σ k j v) k' j' = gR σ k' j' := rfl
theorem gR_R {σ : Mem} {k j k' j' : Nat} {v : Option Nat} : gR (pR σ k j v) k' j' = if k' = k ∧ j' = j then v else gR σ k' j' := rfl
theorem E_newZ {l : Launch} {X : MX} {r : Rs} {fa : Bool} {n : Nat} {σ : Mem} {kc ks pc : Nat} {L : List (Nat × Value)} {S : List Value} {ci idx N kk : Nat} {C : String} {T : u_T} (ty0 : Nat → FieldType) (hcl : vwCl[ci]? = some (C, T, N)) (hN : nF ci = N) (hin : ∀ w ∈ u_ws C T N, w ∈ TBL) (hty : ∀ k, k < N → parseFieldDescriptor (T k).2.2.1 = some (ty0 k)) (hft : ∀ j, j < N → fty ci j = ty0 j ∧ (ty0 j = .int ∨ ty0 j = .boolean ∨ ty0 j = .long ∨ (defaultValue (ty0 j) = .null ∧ ∀ σ k, fvA σ k j (ty0 j) = rfA (gR σ k j)))) (hwl : Cond.classLink (xY X).cls idx C ∈ TBL) (hwi : Cond.instantiable C N ∈ TBL) (hwn : Cond.initialized C ∈ TBL) (hfa : fa = true) (hid : idK n = kk) (hor : ordK kk = n) (hsh : shape kk = some (.inl ci)) (hz0 : Z0 σ kk) (hd : decode (xC X) pc = .ok (.new idx, 3)) (k : E l X r fa (n + 1) σ kc ks (pc + 3) L (.ref kk :: S)) : E l X r fa n σ (kc + 1) (ks + N) pc L S := by
  refine E_new ty0 hcl hN hin hty hwl hwi hwn hfa hid hor hsh (fun j hj => ?_) (fun j hj => ?_) hd k
  · obtain ⟨h1, h2⟩ := hft j hj
    obtain ⟨z1, z2, z3, z4⟩ := hz0 j
    rw [h1]
    rcases h2 with e | e | e | ⟨e1, e2⟩
    · rw [e]; show Value.int (gI σ kk j) = .int 0; rw [z1]
    · rw [e]; show Value.int (gI σ kk j) = .int 0; rw [z1]
    · rw [e]; show Value.long (gL σ kk j) = .long 0; rw [z2]
    · rw [e1, e2, z3]; rfl
  · obtain ⟨h1, h2⟩ := hft j hj
    rcases h2 with e | e | e | ⟨e1, e2⟩
    · rw [e]; exact ⟨rfl, fun q h => by cases h⟩
    · rw [e]; exact ⟨rfl, fun q h => by cases h⟩
    · rw [e]; exact ⟨rfl, fun q h => by cases h⟩
    · rw [e1]; exact ⟨rfl, fun q h => by cases h⟩
theorem hft_X0 : ∀ j, j < 6 → fty 2 j = tyX0 j ∧ (tyX0 j = .int ∨ tyX0 j = .boolean ∨ tyX0 j = .long ∨ (defaultValue (tyX0 j) = .null ∧ ∀ σ k, fvA σ k j (tyX0 j) = rfA (gR σ k j)))
  | 0, _ => ⟨rfl, Or.inr (Or.inr (Or.inr ⟨rfl, fun _ _ => rfl⟩))⟩
  | 1, _ => ⟨rfl, Or.inl rfl⟩
  | 2, _ => ⟨rfl, Or.inl rfl⟩
  | 3, _ => ⟨rfl, Or.inl rfl⟩
  | 4, _ => ⟨rfl, Or.inl rfl⟩
  | 5, _ => ⟨rfl, Or.inr (Or.inr (Or.inr ⟨rfl, fun _ _ => rfl⟩))⟩
  | n + 6, h => absurd h (by omega)
theorem hft_X1 : ∀ j, j < 9 → fty 3 j = tyX1 j ∧ (tyX1 j = .int ∨ tyX1 j = .boolean ∨ tyX1 j = .long ∨ (defaultValue (tyX1 j) = .null ∧ ∀ σ k, fvA σ k j (tyX1 j) = rfA (gR σ k j)))
  | 0, _ => ⟨rfl, Or.inr (Or.inr (Or.inr ⟨rfl, fun _ _ => rfl⟩))⟩
  | 1, _ => ⟨rfl, Or.inl rfl⟩
  | 2, _ => ⟨rfl, Or.inr (Or.inr (Or.inr ⟨rfl, fun _ _ => rfl⟩))⟩
  | 3, _ => ⟨rfl, Or.inl rfl⟩
  | 4, _ => ⟨rfl, Or.inr (Or.inr (Or.inr ⟨rfl, fun _ _ => rfl⟩))⟩
  | 5, _ => ⟨rfl, Or.inl rfl⟩
  | 6, _ => ⟨rfl, Or.inr (Or.inr (Or.inr ⟨rfl, fun _ _ => rfl⟩))⟩
  | 7, _ => ⟨rfl, Or.inl rfl⟩
  | 8, _ => ⟨rfl, Or.inl rfl⟩
  | n + 9, h => absurd h (by omega)
theorem hft_X2 : ∀ j, j < 3 → fty 4 j = tyX2 j ∧ (tyX2 j = .int ∨ tyX2 j = .boolean ∨ tyX2 j = .long ∨ (defaultValue (tyX2 j) = .null ∧ ∀ σ k, fvA σ k j (tyX2 j) = rfA (gR σ k j)))
  | 0, _ => ⟨rfl, Or.inr (Or.inr (Or.inr ⟨rfl, fun _ _ => rfl⟩))⟩
  | 1, _ => ⟨rfl, Or.inl rfl⟩
  | 2, _ => ⟨rfl, Or.inl rfl⟩
  | n + 3, h => absurd h (by omega)
theorem hft_X3 : ∀ j, j < 11 → fty 5 j = tyX3 j ∧ (tyX3 j = .int ∨ tyX3 j = .boolean ∨ tyX3 j = .long ∨ (defaultValue (tyX3 j) = .null ∧ ∀ σ k, fvA σ k j (tyX3 j) = rfA (gR σ k j)))
  | 0, _ => ⟨rfl, Or.inl rfl⟩
  | 1, _ => ⟨rfl, Or.inl rfl⟩
  | 2, _ => ⟨rfl, Or.inl rfl⟩
  | 3, _ => ⟨rfl, Or.inl rfl⟩
  | 4, _ => ⟨rfl, Or.inl rfl⟩
  | 5, _ => ⟨rfl, Or.inl rfl⟩
  | 6, _ => ⟨rfl, Or.inr (Or.inr (Or.inl rfl))⟩
  | 7, _ => ⟨rfl, Or.inl rfl⟩
  | 8, _ => ⟨rfl, Or.inl rfl⟩
  | 9, _ => ⟨rfl, Or.inl rfl⟩
  | 10, _ => ⟨rfl, Or.inr (Or.inl rfl)⟩
  | n + 11, h => absurd h (by omega)
theorem hft_X4 : ∀ j, j < 5 → fty 6 j = tyX4 j ∧ (tyX4 j = .int ∨ tyX4 j = .boolean ∨ tyX4 j = .long ∨ (defaultValue (tyX4 j) = .null ∧ ∀ σ k, fvA σ k j (tyX4 j) = rfA (gR σ k j)))
  | 0, _ => ⟨rfl, Or.inl rfl⟩
  | 1, _ => ⟨rfl, Or.inl rfl⟩
  | 2, _ => ⟨rfl, Or.inl rfl⟩
  | 3, _ => ⟨rfl, Or.inl rfl⟩
  | 4, _ => ⟨rfl, Or.inl rfl⟩
  | n + 5, h => absurd h (by omega)
theorem hft_X5 : ∀ j, j < 14 → fty 7 j = tyX5 j ∧ (tyX5 j = .int ∨ tyX5 j = .boolean ∨ tyX5 j = .long ∨ (defaultValue (tyX5 j) = .null ∧ ∀ σ k, fvA σ k j (tyX5 j) = rfA (gR σ k j)))
  | 0, _ => ⟨rfl, Or.inr (Or.inr (Or.inr ⟨rfl, fun _ _ => rfl⟩))⟩
  | 1, _ => ⟨rfl, Or.inr (Or.inr (Or.inr ⟨rfl, fun _ _ => rfl⟩))⟩
  | 2, _ => ⟨rfl, Or.inl rfl⟩
  | 3, _ => ⟨rfl, Or.inr (Or.inr (Or.inr ⟨rfl, fun _ _ => rfl⟩))⟩
  | 4, _ => ⟨rfl, Or.inr (Or.inr (Or.inr ⟨rfl, fun _ _ => rfl⟩))⟩
  | 5, _ => ⟨rfl, Or.inr (Or.inr (Or.inr ⟨rfl, fun _ _ => rfl⟩))⟩
  | 6, _ => ⟨rfl, Or.inr (Or.inr (Or.inr ⟨rfl, fun _ _ => rfl⟩))⟩
  | 7, _ => ⟨rfl, Or.inr (Or.inr (Or.inr ⟨rfl, fun _ _ => rfl⟩))⟩
  | 8, _ => ⟨rfl, Or.inr (Or.inr (Or.inr ⟨rfl, fun _ _ => rfl⟩))⟩
  | 9, _ => ⟨rfl, Or.inr (Or.inr (Or.inr ⟨rfl, fun _ _ => rfl⟩))⟩
  | 10, _ => ⟨rfl, Or.inr (Or.inr (Or.inr ⟨rfl, fun _ _ => rfl⟩))⟩
  | 11, _ => ⟨rfl, Or.inr (Or.inr (Or.inr ⟨rfl, fun _ _ => rfl⟩))⟩
  | 12, _ => ⟨rfl, Or.inr (Or.inr (Or.inr ⟨rfl, fun _ _ => rfl⟩))⟩
  | 13, _ => ⟨rfl, Or.inr (Or.inr (Or.inr ⟨rfl, fun _ _ => rfl⟩))⟩
  | n + 14, h => absurd h (by omega)
theorem hft_X6 : ∀ j, j < 3 → fty 8 j = tyX6 j ∧ (tyX6 j = .int ∨ tyX6 j = .boolean ∨ tyX6 j = .long ∨ (defaultValue (tyX6 j) = .null ∧ ∀ σ k, fvA σ k j (tyX6 j) = rfA (gR σ k j)))
  | 0, _ => ⟨rfl, Or.inl rfl⟩
  | 1, _ => ⟨rfl, Or.inl rfl⟩
  | 2, _ => ⟨rfl, Or.inl rfl⟩
  | n + 3, h => absurd h (by omega)
theorem hft_X7 : ∀ j, j < 9 → fty 9 j = tyX7 j ∧ (tyX7 j = .int ∨ tyX7 j = .boolean ∨ tyX7 j = .long ∨ (defaultValue (tyX7 j) = .null ∧ ∀ σ k, fvA σ k j (tyX7 j) = rfA (gR σ k j)))
  | 0, _ => ⟨rfl, Or.inr (Or.inr (Or.inr ⟨rfl, fun _ _ => rfl⟩))⟩
  | 1, _ => ⟨rfl, Or.inr (Or.inr (Or.inr ⟨rfl, fun _ _ => rfl⟩))⟩
  | 2, _ => ⟨rfl, Or.inr (Or.inr (Or.inr ⟨rfl, fun _ _ => rfl⟩))⟩
  | 3, _ => ⟨rfl, Or.inr (Or.inl rfl)⟩
  | 4, _ => ⟨rfl, Or.inr (Or.inr (Or.inr ⟨rfl, fun _ _ => rfl⟩))⟩
  | 5, _ => ⟨rfl, Or.inr (Or.inr (Or.inr ⟨rfl, fun _ _ => rfl⟩))⟩
  | 6, _ => ⟨rfl, Or.inl rfl⟩
  | 7, _ => ⟨rfl, Or.inl rfl⟩
  | 8, _ => ⟨rfl, Or.inr (Or.inr (Or.inr ⟨rfl, fun _ _ => rfl⟩))⟩
  | n + 9, h => absurd h (by omega)
theorem hft_X8 : ∀ j, j < 22 → fty 10 j = tyX8 j ∧ (tyX8 j = .int ∨ tyX8 j = .boolean ∨ tyX8 j = .long ∨ (defaultValue (tyX8 j) = .null ∧ ∀ σ k, fvA σ k j (tyX8 j) = rfA (gR σ k j)))
  | 0, _ => ⟨rfl, Or.inl rfl⟩
  | 1, _ => ⟨rfl, Or.inr (Or.inr (Or.inr ⟨rfl, fun _ _ => rfl⟩))⟩
  | 2, _ => ⟨rfl, Or.inl rfl⟩
  | 3, _ => ⟨rfl, Or.inr (Or.inl rfl)⟩
  | 4, _ => ⟨rfl, Or.inr (Or.inr (Or.inr ⟨rfl, fun _ _ => rfl⟩))⟩
  | 5, _ => ⟨rfl, Or.inr (Or.inr (Or.inr ⟨rfl, fun _ _ => rfl⟩))⟩
  | 6, _ => ⟨rfl, Or.inr (Or.inr (Or.inr ⟨rfl, fun _ _ => rfl⟩))⟩
  | 7, _ => ⟨rfl, Or.inr (Or.inr (Or.inr ⟨rfl, fun _ _ => rfl⟩))⟩
  | 8, _ => ⟨rfl, Or.inl rfl⟩
  | 9, _ => ⟨rfl, Or.inl rfl⟩
  | 10, _ => ⟨rfl, Or.inl rfl⟩
  | 11, _ => ⟨rfl, Or.inl rfl⟩
  | 12, _ => ⟨rfl, Or.inr (Or.inr (Or.inr ⟨rfl, fun _ _ => rfl⟩))⟩
  | 13, _ => ⟨rfl, Or.inr (Or.inr (Or.inr ⟨rfl, fun _ _ => rfl⟩))⟩
  | 14, _ => ⟨rfl, Or.inl rfl⟩
  | 15, _ => ⟨rfl, Or.inl rfl⟩
  | 16, _ => ⟨rfl, Or.inr (Or.inr (Or.inr ⟨rfl, fun _ _ => rfl⟩))⟩
  | 17, _ => ⟨rfl, Or.inr (Or.inr (Or.inr ⟨rfl, fun _ _ => rfl⟩))⟩
  | 18, _ => ⟨rfl, Or.inl rfl⟩
  | 19, _ => ⟨rfl, Or.inl rfl⟩
  | 20, _ => ⟨rfl, Or.inl rfl⟩
  | 21, _ => ⟨rfl, Or.inl rfl⟩
  | n + 22, h => absurd h (by omega)
theorem wC0 : Cond.methodLink RX4 3 Lib.objectInit ∈ TBL := in_TBL (by decide +kernel) (by decide +kernel)
theorem wC1 : Cond.instanceMethod Lib.objectInit ∈ TBL := in_TBL (by decide +kernel) (by decide +kernel)
theorem wC2 : Cond.code Lib.objectInit ⟨#[0xb1]⟩ 1 none ∈ TBL := in_TBL (by decide +kernel) (by decide +kernel)
theorem wC3 : Cond.methodLink RX3 3 Lib.objectInit ∈ TBL := in_TBL (by decide +kernel) (by decide +kernel)
theorem wC4 : Cond.methodLink RX6 1 Lib.objectInit ∈ TBL := in_TBL (by decide +kernel) (by decide +kernel)
theorem wC5 : Cond.methodLink RX1 3 Lib.objectInit ∈ TBL := in_TBL (by decide +kernel) (by decide +kernel)
theorem wC6 : Cond.classLink RX1 9 RX4 ∈ TBL := in_TBL (mT1 (List.mem_of_getElem? (i := 43) (by decide +kernel))) (by decide +kernel)
theorem wC7 : Cond.instantiable RX4 5 ∈ TBL := in_TBL (mT1 (List.mem_of_getElem? (i := 45) (by decide +kernel))) (by decide +kernel)
theorem wC8 : Cond.code yX4_init cX4_init 1 none ∈ TBL := in_TBL (mT1 (List.mem_of_getElem? (i := 48) (by decide +kernel))) (by decide +kernel)
theorem wC9 : Cond.instanceMethod yX4_init ∈ TBL := in_TBL (mT1 (List.mem_of_getElem? (i := 47) (by decide +kernel))) (by decide +kernel)
theorem wC10 : Cond.classLink RX1 18 RX3 ∈ TBL := in_TBL (mT1 (List.mem_of_getElem? (i := 76) (by decide +kernel))) (by decide +kernel)
theorem wC11 : Cond.instantiable RX3 11 ∈ TBL := in_TBL (mT1 (List.mem_of_getElem? (i := 78) (by decide +kernel))) (by decide +kernel)
theorem wC12 : Cond.code yX3_init cX3_init 1 none ∈ TBL := in_TBL (mT1 (List.mem_of_getElem? (i := 81) (by decide +kernel))) (by decide +kernel)
theorem wC13 : Cond.instanceMethod yX3_init ∈ TBL := in_TBL (mT1 (List.mem_of_getElem? (i := 80) (by decide +kernel))) (by decide +kernel)
theorem wC14 : Cond.classLink RX1 25 RX6 ∈ TBL := in_TBL (mT1 (List.mem_of_getElem? (i := 145) (by decide +kernel))) (by decide +kernel)
theorem wC15 : Cond.instantiable RX6 3 ∈ TBL := in_TBL (mT1 (List.mem_of_getElem? (i := 147) (by decide +kernel))) (by decide +kernel)
theorem wC16 : Cond.code yX6_init cX6_init 1 none ∈ TBL := in_TBL (mT1 (List.mem_of_getElem? (i := 150) (by decide +kernel))) (by decide +kernel)
theorem wC17 : Cond.instanceMethod yX6_init ∈ TBL := in_TBL (mT1 (List.mem_of_getElem? (i := 149) (by decide +kernel))) (by decide +kernel)
theorem wC18 : Cond.arrayClass .int ∈ TBL := in_TBL (by decide +kernel) (by decide +kernel)
theorem wC19 : Cond.methodLink RX2 3 Lib.objectInit ∈ TBL := in_TBL (by decide +kernel) (by decide +kernel)
theorem wC20 : Cond.classLink RX2 9 RX1 ∈ TBL := in_TBL (mT2 (List.mem_of_getElem? (i := 26) (by decide +kernel))) (by decide +kernel)
theorem wC21 : Cond.instantiable RX1 9 ∈ TBL := in_TBL (mT1 (List.mem_of_getElem? (i := 38) (by decide +kernel))) (by decide +kernel)
theorem wC22 : Cond.code yX1_init cX1_init 2 none ∈ TBL := in_TBL (mT1 (List.mem_of_getElem? (i := 41) (by decide +kernel))) (by decide +kernel)
theorem wC23 : Cond.methodLink RX2 17 yX1_init ∈ TBL := in_TBL (mT2 (List.mem_of_getElem? (i := 28) (by decide +kernel))) (by decide +kernel)
theorem wC24 : Cond.instanceMethod yX1_init ∈ TBL := in_TBL (mT1 (List.mem_of_getElem? (i := 40) (by decide +kernel))) (by decide +kernel)
theorem wC25 : Cond.methodLink RX5 3 Lib.objectInit ∈ TBL := in_TBL (by decide +kernel) (by decide +kernel)
theorem wC26 : Cond.classLink RX5 9 RX1 ∈ TBL := in_TBL (mT1 (List.mem_of_getElem? (i := 37) (by decide +kernel))) (by decide +kernel)
theorem wC27 : Cond.methodLink RX5 11 yX1_init ∈ TBL := in_TBL (mT1 (List.mem_of_getElem? (i := 39) (by decide +kernel))) (by decide +kernel)
theorem wC28 : Cond.classLink RX5 18 RX3 ∈ TBL := in_TBL (mT1 (List.mem_of_getElem? (i := 210) (by decide +kernel))) (by decide +kernel)
theorem wC29 : Cond.arrayClass .long ∈ TBL := in_TBL (by decide +kernel) (by decide +kernel)
theorem wC30 : Cond.methodLink RX0 3 Lib.objectInit ∈ TBL := in_TBL (by decide +kernel) (by decide +kernel)
theorem wC31 : Cond.arrayClass .char ∈ TBL := in_TBL (by decide +kernel) (by decide +kernel)
theorem wC32 : Cond.methodLink RX7 3 Lib.objectInit ∈ TBL := in_TBL (by decide +kernel) (by decide +kernel)
theorem wC33 : Cond.classLink RX7 9 RX5 ∈ TBL := in_TBL (mT1 (List.mem_of_getElem? (i := 31) (by decide +kernel))) (by decide +kernel)
theorem wC34 : Cond.instantiable RX5 14 ∈ TBL := in_TBL (mT1 (List.mem_of_getElem? (i := 32) (by decide +kernel))) (by decide +kernel)
theorem wC35 : Cond.code yX5_init cX5_init 2 none ∈ TBL := in_TBL (mT1 (List.mem_of_getElem? (i := 35) (by decide +kernel))) (by decide +kernel)
theorem wC36 : Cond.methodLink RX7 11 yX5_init ∈ TBL := in_TBL (mT1 (List.mem_of_getElem? (i := 33) (by decide +kernel))) (by decide +kernel)
theorem wC37 : Cond.instanceMethod yX5_init ∈ TBL := in_TBL (mT1 (List.mem_of_getElem? (i := 34) (by decide +kernel))) (by decide +kernel)
theorem wC38 : Cond.classLink RX7 21 RX1 ∈ TBL := in_TBL (mT2 (List.mem_of_getElem? (i := 18) (by decide +kernel))) (by decide +kernel)
theorem wC39 : Cond.methodLink RX7 23 yX1_init ∈ TBL := in_TBL (mT2 (List.mem_of_getElem? (i := 19) (by decide +kernel))) (by decide +kernel)
theorem wC40 : Cond.classLink RX7 31 RX2 ∈ TBL := in_TBL (mT2 (List.mem_of_getElem? (i := 20) (by decide +kernel))) (by decide +kernel)
theorem wC41 : Cond.instantiable RX2 3 ∈ TBL := in_TBL (mT2 (List.mem_of_getElem? (i := 21) (by decide +kernel))) (by decide +kernel)
theorem wC42 : Cond.code yX2_init cX2_init 2 none ∈ TBL := in_TBL (mT2 (List.mem_of_getElem? (i := 24) (by decide +kernel))) (by decide +kernel)
theorem wC43 : Cond.methodLink RX7 33 yX2_init ∈ TBL := in_TBL (mT2 (List.mem_of_getElem? (i := 22) (by decide +kernel))) (by decide +kernel)
theorem wC44 : Cond.instanceMethod yX2_init ∈ TBL := in_TBL (mT2 (List.mem_of_getElem? (i := 23) (by decide +kernel))) (by decide +kernel)
theorem wC45 : Cond.classLink RX7 38 RX0 ∈ TBL := in_TBL (mT2 (List.mem_of_getElem? (i := 40) (by decide +kernel))) (by decide +kernel)
theorem wC46 : Cond.instantiable RX0 6 ∈ TBL := in_TBL (mT2 (List.mem_of_getElem? (i := 41) (by decide +kernel))) (by decide +kernel)
theorem wC47 : Cond.code yX0_init cX0_init 1 none ∈ TBL := in_TBL (mT2 (List.mem_of_getElem? (i := 44) (by decide +kernel))) (by decide +kernel)
theorem wC48 : Cond.methodLink RX7 40 yX0_init ∈ TBL := in_TBL (mT2 (List.mem_of_getElem? (i := 42) (by decide +kernel))) (by decide +kernel)
theorem wC49 : Cond.instanceMethod yX0_init ∈ TBL := in_TBL (mT2 (List.mem_of_getElem? (i := 43) (by decide +kernel))) (by decide +kernel)
theorem wC50 : Cond.methodLink RX8 3 Lib.objectInit ∈ TBL := in_TBL (by decide +kernel) (by decide +kernel)
theorem nC0 : Cond.methodLinkNest RX1 17 yX4_init RX7 ∈ NWL := in_NWL (mT1 (List.mem_of_getElem? (i := 46) (by decide +kernel))) (by decide +kernel)
theorem nC1 : Cond.methodLinkNest RX1 24 yX3_init RX7 ∈ NWL := in_NWL (mT1 (List.mem_of_getElem? (i := 79) (by decide +kernel))) (by decide +kernel)
theorem nC2 : Cond.methodLinkNest RX1 31 yX6_init RX7 ∈ NWL := in_NWL (mT1 (List.mem_of_getElem? (i := 148) (by decide +kernel))) (by decide +kernel)
theorem nC3 : Cond.methodLinkNest RX5 20 yX3_init RX7 ∈ NWL := in_NWL (mT1 (List.mem_of_getElem? (i := 211) (by decide +kernel))) (by decide +kernel)
def X_X4_init : MX := (yX4_init, cX4_init, 1, none, rmD 0 0 0, 0, [], none)
def X_X3_init : MX := (yX3_init, cX3_init, 1, none, rmD 0 0 0, 0, [], none)
def X_X6_init : MX := (yX6_init, cX6_init, 1, none, rmD 0 0 0, 0, [], none)
def X_X1_init : MX := (yX1_init, cX1_init, 2, none, rmD 1 26 199, 0, [], none)
def X_X2_init : MX := (yX2_init, cX2_init, 2, none, rmD 2 217 1672, 0, [], none)
def X_X5_init : MX := (yX5_init, cX5_init, 2, none, rmD 2 39 438, 0, [], none)
def X_X0_init : MX := (yX0_init, cX0_init, 1, none, rmD 0 2 35, 0, [], none)
def X_X7_init : MX := (yX7_init, cX7_init, 1, none, rmD 3 289 2382, 0, [], none)
def X_X8_init : MX := (yX8_init, cX8_init, 2, none, rmD 0 9 1796, 0, [], none)
theorem cwI_RX1_17 : WNI RX1 17 X_X4_init 0 RX7 := ⟨⟨nC0, wT35, wC8, rfl, ⟨by decide +kernel, by decide +kernel, by decide +kernel⟩⟩, wC9, rfl, rfl⟩
theorem cwI_RX1_24 : WNI RX1 24 X_X3_init 0 RX7 := ⟨⟨nC1, wT30, wC12, rfl, ⟨by decide +kernel, by decide +kernel, by decide +kernel⟩⟩, wC13, rfl, rfl⟩
theorem cwI_RX1_31 : WNI RX1 31 X_X6_init 0 RX7 := ⟨⟨nC2, wT25, wC16, rfl, ⟨by decide +kernel, by decide +kernel, by decide +kernel⟩⟩, wC17, rfl, rfl⟩
theorem cwI_RX2_17 : WI RX2 17 X_X1_init 0 := ⟨⟨wC23, wT40, wC22, rfl, ⟨by decide +kernel, by decide +kernel, by decide +kernel⟩⟩, wC24, rfl, rfl⟩
theorem cwI_RX5_11 : WI RX5 11 X_X1_init 0 := ⟨⟨wC27, wT40, wC22, rfl, ⟨by decide +kernel, by decide +kernel, by decide +kernel⟩⟩, wC24, rfl, rfl⟩
theorem cwI_RX5_20 : WNI RX5 20 X_X3_init 0 RX7 := ⟨⟨nC3, wT30, wC12, rfl, ⟨by decide +kernel, by decide +kernel, by decide +kernel⟩⟩, wC13, rfl, rfl⟩
theorem cwI_RX7_11 : WI RX7 11 X_X5_init 0 := ⟨⟨wC36, wT124, wC35, rfl, ⟨by decide +kernel, by decide +kernel, by decide +kernel⟩⟩, wC37, rfl, rfl⟩
theorem cwI_RX7_23 : WI RX7 23 X_X1_init 0 := ⟨⟨wC39, wT40, wC22, rfl, ⟨by decide +kernel, by decide +kernel, by decide +kernel⟩⟩, wC24, rfl, rfl⟩
theorem cwI_RX7_33 : WI RX7 33 X_X2_init 0 := ⟨⟨wC43, wT198, wC42, rfl, ⟨by decide +kernel, by decide +kernel, by decide +kernel⟩⟩, wC44, rfl, rfl⟩
theorem cwI_RX7_40 : WI RX7 40 X_X0_init 0 := ⟨⟨wC48, wT0, wC47, rfl, ⟨by decide +kernel, by decide +kernel, by decide +kernel⟩⟩, wC49, rfl, rfl⟩
theorem pR_RX1_11 {l : Launch} {X : MX} {r : Rs} {fa : Bool} {n : Nat} {σ : Mem} {kc ks pc : Nat} {L : List (Nat × Value)} {S : List Value} {kk : Nat} {v : Nat} (hX : (xY X).cls = RX1) (hI : (xY X).name = "<init>") (hsh : shape kk = some (.inl 3)) (hk : ordK kk < n) (hd : decode (xC X) pc = .ok (.putfield 11, 3)) (k : E l X r fa n (pR σ kk 0 (some v)) kc ks (pc + 3) L S) : E l X r fa n σ kc ks pc L (.ref v :: .ref kk :: S) := E_putR (ci := 3) (N := 9) (j := 0) (C := RX1) (T := TX1) (ty := (tyX1 0)) kk tyX1 rfl rfl win_X1 tyX1_ok nmX1 (by decide) rfl (by rw [hX]; exact in_TBL (mT1 (List.mem_of_getElem? (i := 168) (by decide +kernel))) (by decide +kernel)) (Or.inr ⟨rfl, hI, by rw [hX]; rfl⟩) rfl rfl (Or.inr ⟨_, rfl⟩) hsh hk hd k
theorem pR_RX1_20 {l : Launch} {X : MX} {r : Rs} {fa : Bool} {n : Nat} {σ : Mem} {kc ks pc : Nat} {L : List (Nat × Value)} {S : List Value} {kk : Nat} {v : Nat} (hX : (xY X).cls = RX1) (hI : (xY X).name = "<init>") (hsh : shape kk = some (.inl 3)) (hk : ordK kk < n) (hd : decode (xC X) pc = .ok (.putfield 20, 3)) (k : E l X r fa n (pR σ kk 2 (some v)) kc ks (pc + 3) L S) : E l X r fa n σ kc ks pc L (.ref v :: .ref kk :: S) := E_putR (ci := 3) (N := 9) (j := 2) (C := RX1) (T := TX1) (ty := (tyX1 2)) kk tyX1 rfl rfl win_X1 tyX1_ok nmX1 (by decide) rfl (by rw [hX]; exact in_TBL (mT1 (List.mem_of_getElem? (i := 173) (by decide +kernel))) (by decide +kernel)) (Or.inr ⟨rfl, hI, by rw [hX]; rfl⟩) rfl rfl (Or.inr ⟨_, rfl⟩) hsh hk hd k
theorem pR_RX1_27 {l : Launch} {X : MX} {r : Rs} {fa : Bool} {n : Nat} {σ : Mem} {kc ks pc : Nat} {L : List (Nat × Value)} {S : List Value} {kk : Nat} {v : Nat} (hX : (xY X).cls = RX1) (hI : (xY X).name = "<init>") (hsh : shape kk = some (.inl 3)) (hk : ordK kk < n) (hd : decode (xC X) pc = .ok (.putfield 27, 3)) (k : E l X r fa n (pR σ kk 4 (some v)) kc ks (pc + 3) L S) : E l X r fa n σ kc ks pc L (.ref v :: .ref kk :: S) := E_putR (ci := 3) (N := 9) (j := 4) (C := RX1) (T := TX1) (ty := (tyX1 4)) kk tyX1 rfl rfl win_X1 tyX1_ok nmX1 (by decide) rfl (by rw [hX]; exact in_TBL (mT1 (List.mem_of_getElem? (i := 179) (by decide +kernel))) (by decide +kernel)) (Or.inr ⟨rfl, hI, by rw [hX]; rfl⟩) rfl rfl (Or.inr ⟨_, rfl⟩) hsh hk hd k
theorem pR_RX1_32 {l : Launch} {X : MX} {r : Rs} {fa : Bool} {n : Nat} {σ : Mem} {kc ks pc : Nat} {L : List (Nat × Value)} {S : List Value} {kk : Nat} {v : Nat} (hX : (xY X).cls = RX1) (hI : (xY X).name = "<init>") (hsh : shape kk = some (.inl 3)) (hk : ordK kk < n) (hd : decode (xC X) pc = .ok (.putfield 32, 3)) (k : E l X r fa n (pR σ kk 6 (some v)) kc ks (pc + 3) L S) : E l X r fa n σ kc ks pc L (.ref v :: .ref kk :: S) := E_putR (ci := 3) (N := 9) (j := 6) (C := RX1) (T := TX1) (ty := (tyX1 6)) kk tyX1 rfl rfl win_X1 tyX1_ok nmX1 (by decide) rfl (by rw [hX]; exact in_TBL (mT1 (List.mem_of_getElem? (i := 183) (by decide +kernel))) (by decide +kernel)) (Or.inr ⟨rfl, hI, by rw [hX]; rfl⟩) rfl rfl (Or.inr ⟨_, rfl⟩) hsh hk hd k
theorem pR_RX2_11 {l : Launch} {X : MX} {r : Rs} {fa : Bool} {n : Nat} {σ : Mem} {kc ks pc : Nat} {L : List (Nat × Value)} {S : List Value} {kk : Nat} {v : Nat} (hX : (xY X).cls = RX2) (hI : (xY X).name = "<init>") (hsh : shape kk = some (.inl 4)) (hk : ordK kk < n) (hd : decode (xC X) pc = .ok (.putfield 11, 3)) (k : E l X r fa n (pR σ kk 0 (some v)) kc ks (pc + 3) L S) : E l X r fa n σ kc ks pc L (.ref v :: .ref kk :: S) := E_putR (ci := 4) (N := 3) (j := 0) (C := RX2) (T := TX2) (ty := (tyX2 0)) kk tyX2 rfl rfl win_X2 tyX2_ok nmX2 (by decide) rfl (by rw [hX]; exact in_TBL (mT2 (List.mem_of_getElem? (i := 29) (by decide +kernel))) (by decide +kernel)) (Or.inr ⟨rfl, hI, by rw [hX]; rfl⟩) rfl rfl (Or.inr ⟨_, rfl⟩) hsh hk hd k
theorem pR_RX5_12 {l : Launch} {X : MX} {r : Rs} {fa : Bool} {n : Nat} {σ : Mem} {kc ks pc : Nat} {L : List (Nat × Value)} {S : List Value} {kk : Nat} {v : Nat} (hX : (xY X).cls = RX5) (hI : (xY X).name = "<init>") (hsh : shape kk = some (.inl 7)) (hk : ordK kk < n) (hd : decode (xC X) pc = .ok (.putfield 12, 3)) (k : E l X r fa n (pR σ kk 0 (some v)) kc ks (pc + 3) L S) : E l X r fa n σ kc ks pc L (.ref v :: .ref kk :: S) := E_putR (ci := 7) (N := 14) (j := 0) (C := RX5) (T := TX5) (ty := (tyX5 0)) kk tyX5 rfl rfl win_X5 tyX5_ok nmX5 (by decide) rfl (by rw [hX]; exact in_TBL (mT1 (List.mem_of_getElem? (i := 212) (by decide +kernel))) (by decide +kernel)) (Or.inr ⟨rfl, hI, by rw [hX]; rfl⟩) rfl rfl (Or.inl ⟨_, rfl⟩) hsh hk hd k
theorem pR_RX5_21 {l : Launch} {X : MX} {r : Rs} {fa : Bool} {n : Nat} {σ : Mem} {kc ks pc : Nat} {L : List (Nat × Value)} {S : List Value} {kk : Nat} {v : Nat} (hX : (xY X).cls = RX5) (hI : (xY X).name = "<init>") (hsh : shape kk = some (.inl 7)) (hk : ordK kk < n) (hd : decode (xC X) pc = .ok (.putfield 21, 3)) (k : E l X r fa n (pR σ kk 1 (some v)) kc ks (pc + 3) L S) : E l X r fa n σ kc ks pc L (.ref v :: .ref kk :: S) := E_putR (ci := 7) (N := 14) (j := 1) (C := RX5) (T := TX5) (ty := (tyX5 1)) kk tyX5 rfl rfl win_X5 tyX5_ok nmX5 (by decide) rfl (by rw [hX]; exact in_TBL (mT1 (List.mem_of_getElem? (i := 214) (by decide +kernel))) (by decide +kernel)) (Or.inr ⟨rfl, hI, by rw [hX]; rfl⟩) rfl rfl (Or.inl ⟨_, rfl⟩) hsh hk hd k
theorem pR_RX5_25 {l : Launch} {X : MX} {r : Rs} {fa : Bool} {n : Nat} {σ : Mem} {kc ks pc : Nat} {L : List (Nat × Value)} {S : List Value} {kk : Nat} {v : Nat} (hX : (xY X).cls = RX5) (hI : (xY X).name = "<init>") (hsh : shape kk = some (.inl 7)) (hk : ordK kk < n) (hd : decode (xC X) pc = .ok (.putfield 25, 3)) (k : E l X r fa n (pR σ kk 3 (some v)) kc ks (pc + 3) L S) : E l X r fa n σ kc ks pc L (.ref v :: .ref kk :: S) := E_putR (ci := 7) (N := 14) (j := 3) (C := RX5) (T := TX5) (ty := (tyX5 3)) kk tyX5 rfl rfl win_X5 tyX5_ok nmX5 (by decide) rfl (by rw [hX]; exact in_TBL (mT1 (List.mem_of_getElem? (i := 217) (by decide +kernel))) (by decide +kernel)) (Or.inr ⟨rfl, hI, by rw [hX]; rfl⟩) rfl rfl (Or.inr ⟨_, rfl⟩) hsh hk hd k
theorem pR_RX5_29 {l : Launch} {X : MX} {r : Rs} {fa : Bool} {n : Nat} {σ : Mem} {kc ks pc : Nat} {L : List (Nat × Value)} {S : List Value} {kk : Nat} {v : Nat} (hX : (xY X).cls = RX5) (hI : (xY X).name = "<init>") (hsh : shape kk = some (.inl 7)) (hk : ordK kk < n) (hd : decode (xC X) pc = .ok (.putfield 29, 3)) (k : E l X r fa n (pR σ kk 4 (some v)) kc ks (pc + 3) L S) : E l X r fa n σ kc ks pc L (.ref v :: .ref kk :: S) := E_putR (ci := 7) (N := 14) (j := 4) (C := RX5) (T := TX5) (ty := (tyX5 4)) kk tyX5 rfl rfl win_X5 tyX5_ok nmX5 (by decide) rfl (by rw [hX]; exact in_TBL (mT1 (List.mem_of_getElem? (i := 218) (by decide +kernel))) (by decide +kernel)) (Or.inr ⟨rfl, hI, by rw [hX]; rfl⟩) rfl rfl (Or.inr ⟨_, rfl⟩) hsh hk hd k
theorem pR_RX5_33 {l : Launch} {X : MX} {r : Rs} {fa : Bool} {n : Nat} {σ : Mem} {kc ks pc : Nat} {L : List (Nat × Value)} {S : List Value} {kk : Nat} {v : Nat} (hX : (xY X).cls = RX5) (hI : (xY X).name = "<init>") (hsh : shape kk = some (.inl 7)) (hk : ordK kk < n) (hd : decode (xC X) pc = .ok (.putfield 33, 3)) (k : E l X r fa n (pR σ kk 5 (some v)) kc ks (pc + 3) L S) : E l X r fa n σ kc ks pc L (.ref v :: .ref kk :: S) := E_putR (ci := 7) (N := 14) (j := 5) (C := RX5) (T := TX5) (ty := (tyX5 5)) kk tyX5 rfl rfl win_X5 tyX5_ok nmX5 (by decide) rfl (by rw [hX]; exact in_TBL (mT1 (List.mem_of_getElem? (i := 219) (by decide +kernel))) (by decide +kernel)) (Or.inr ⟨rfl, hI, by rw [hX]; rfl⟩) rfl rfl (Or.inr ⟨_, rfl⟩) hsh hk hd k
theorem pR_RX5_36 {l : Launch} {X : MX} {r : Rs} {fa : Bool} {n : Nat} {σ : Mem} {kc ks pc : Nat} {L : List (Nat × Value)} {S : List Value} {kk : Nat} {v : Nat} (hX : (xY X).cls = RX5) (hI : (xY X).name = "<init>") (hsh : shape kk = some (.inl 7)) (hk : ordK kk < n) (hd : decode (xC X) pc = .ok (.putfield 36, 3)) (k : E l X r fa n (pR σ kk 6 (some v)) kc ks (pc + 3) L S) : E l X r fa n σ kc ks pc L (.ref v :: .ref kk :: S) := E_putR (ci := 7) (N := 14) (j := 6) (C := RX5) (T := TX5) (ty := (tyX5 6)) kk tyX5 rfl rfl win_X5 tyX5_ok nmX5 (by decide) rfl (by rw [hX]; exact in_TBL (mT1 (List.mem_of_getElem? (i := 220) (by decide +kernel))) (by decide +kernel)) (Or.inr ⟨rfl, hI, by rw [hX]; rfl⟩) rfl rfl (Or.inr ⟨_, rfl⟩) hsh hk hd k
theorem pR_RX5_39 {l : Launch} {X : MX} {r : Rs} {fa : Bool} {n : Nat} {σ : Mem} {kc ks pc : Nat} {L : List (Nat × Value)} {S : List Value} {kk : Nat} {v : Nat} (hX : (xY X).cls = RX5) (hI : (xY X).name = "<init>") (hsh : shape kk = some (.inl 7)) (hk : ordK kk < n) (hd : decode (xC X) pc = .ok (.putfield 39, 3)) (k : E l X r fa n (pR σ kk 7 (some v)) kc ks (pc + 3) L S) : E l X r fa n σ kc ks pc L (.ref v :: .ref kk :: S) := E_putR (ci := 7) (N := 14) (j := 7) (C := RX5) (T := TX5) (ty := (tyX5 7)) kk tyX5 rfl rfl win_X5 tyX5_ok nmX5 (by decide) rfl (by rw [hX]; exact in_TBL (mT1 (List.mem_of_getElem? (i := 221) (by decide +kernel))) (by decide +kernel)) (Or.inr ⟨rfl, hI, by rw [hX]; rfl⟩) rfl rfl (Or.inr ⟨_, rfl⟩) hsh hk hd k
theorem pR_RX5_42 {l : Launch} {X : MX} {r : Rs} {fa : Bool} {n : Nat} {σ : Mem} {kc ks pc : Nat} {L : List (Nat × Value)} {S : List Value} {kk : Nat} {v : Nat} (hX : (xY X).cls = RX5) (hI : (xY X).name = "<init>") (hsh : shape kk = some (.inl 7)) (hk : ordK kk < n) (hd : decode (xC X) pc = .ok (.putfield 42, 3)) (k : E l X r fa n (pR σ kk 8 (some v)) kc ks (pc + 3) L S) : E l X r fa n σ kc ks pc L (.ref v :: .ref kk :: S) := E_putR (ci := 7) (N := 14) (j := 8) (C := RX5) (T := TX5) (ty := (tyX5 8)) kk tyX5 rfl rfl win_X5 tyX5_ok nmX5 (by decide) rfl (by rw [hX]; exact in_TBL (mT1 (List.mem_of_getElem? (i := 222) (by decide +kernel))) (by decide +kernel)) (Or.inr ⟨rfl, hI, by rw [hX]; rfl⟩) rfl rfl (Or.inr ⟨_, rfl⟩) hsh hk hd k
theorem pR_RX5_45 {l : Launch} {X : MX} {r : Rs} {fa : Bool} {n : Nat} {σ : Mem} {kc ks pc : Nat} {L : List (Nat × Value)} {S : List Value} {kk : Nat} {v : Nat} (hX : (xY X).cls = RX5) (hI : (xY X).name = "<init>") (hsh : shape kk = some (.inl 7)) (hk : ordK kk < n) (hd : decode (xC X) pc = .ok (.putfield 45, 3)) (k : E l X r fa n (pR σ kk 9 (some v)) kc ks (pc + 3) L S) : E l X r fa n σ kc ks pc L (.ref v :: .ref kk :: S) := E_putR (ci := 7) (N := 14) (j := 9) (C := RX5) (T := TX5) (ty := (tyX5 9)) kk tyX5 rfl rfl win_X5 tyX5_ok nmX5 (by decide) rfl (by rw [hX]; exact in_TBL (mT1 (List.mem_of_getElem? (i := 223) (by decide +kernel))) (by decide +kernel)) (Or.inr ⟨rfl, hI, by rw [hX]; rfl⟩) rfl rfl (Or.inr ⟨_, rfl⟩) hsh hk hd k
theorem pR_RX5_48 {l : Launch} {X : MX} {r : Rs} {fa : Bool} {n : Nat} {σ : Mem} {kc ks pc : Nat} {L : List (Nat × Value)} {S : List Value} {kk : Nat} {v : Nat} (hX : (xY X).cls = RX5) (hI : (xY X).name = "<init>") (hsh : shape kk = some (.inl 7)) (hk : ordK kk < n) (hd : decode (xC X) pc = .ok (.putfield 48, 3)) (k : E l X r fa n (pR σ kk 10 (some v)) kc ks (pc + 3) L S) : E l X r fa n σ kc ks pc L (.ref v :: .ref kk :: S) := E_putR (ci := 7) (N := 14) (j := 10) (C := RX5) (T := TX5) (ty := (tyX5 10)) kk tyX5 rfl rfl win_X5 tyX5_ok nmX5 (by decide) rfl (by rw [hX]; exact in_TBL (mT1 (List.mem_of_getElem? (i := 224) (by decide +kernel))) (by decide +kernel)) (Or.inr ⟨rfl, hI, by rw [hX]; rfl⟩) rfl rfl (Or.inr ⟨_, rfl⟩) hsh hk hd k
theorem pR_RX5_52 {l : Launch} {X : MX} {r : Rs} {fa : Bool} {n : Nat} {σ : Mem} {kc ks pc : Nat} {L : List (Nat × Value)} {S : List Value} {kk : Nat} {v : Nat} (hX : (xY X).cls = RX5) (hI : (xY X).name = "<init>") (hsh : shape kk = some (.inl 7)) (hk : ordK kk < n) (hd : decode (xC X) pc = .ok (.putfield 52, 3)) (k : E l X r fa n (pR σ kk 11 (some v)) kc ks (pc + 3) L S) : E l X r fa n σ kc ks pc L (.ref v :: .ref kk :: S) := E_putR (ci := 7) (N := 14) (j := 11) (C := RX5) (T := TX5) (ty := (tyX5 11)) kk tyX5 rfl rfl win_X5 tyX5_ok nmX5 (by decide) rfl (by rw [hX]; exact in_TBL (mT1 (List.mem_of_getElem? (i := 225) (by decide +kernel))) (by decide +kernel)) (Or.inr ⟨rfl, hI, by rw [hX]; rfl⟩) rfl rfl (Or.inr ⟨_, rfl⟩) hsh hk hd k
theorem pR_RX5_55 {l : Launch} {X : MX} {r : Rs} {fa : Bool} {n : Nat} {σ : Mem} {kc ks pc : Nat} {L : List (Nat × Value)} {S : List Value} {kk : Nat} {v : Nat} (hX : (xY X).cls = RX5) (hI : (xY X).name = "<init>") (hsh : shape kk = some (.inl 7)) (hk : ordK kk < n) (hd : decode (xC X) pc = .ok (.putfield 55, 3)) (k : E l X r fa n (pR σ kk 12 (some v)) kc ks (pc + 3) L S) : E l X r fa n σ kc ks pc L (.ref v :: .ref kk :: S) := E_putR (ci := 7) (N := 14) (j := 12) (C := RX5) (T := TX5) (ty := (tyX5 12)) kk tyX5 rfl rfl win_X5 tyX5_ok nmX5 (by decide) rfl (by rw [hX]; exact in_TBL (mT1 (List.mem_of_getElem? (i := 226) (by decide +kernel))) (by decide +kernel)) (Or.inr ⟨rfl, hI, by rw [hX]; rfl⟩) rfl rfl (Or.inr ⟨_, rfl⟩) hsh hk hd k
theorem pR_RX5_58 {l : Launch} {X : MX} {r : Rs} {fa : Bool} {n : Nat} {σ : Mem} {kc ks pc : Nat} {L : List (Nat × Value)} {S : List Value} {kk : Nat} {v : Nat} (hX : (xY X).cls = RX5) (hI : (xY X).name = "<init>") (hsh : shape kk = some (.inl 7)) (hk : ordK kk < n) (hd : decode (xC X) pc = .ok (.putfield 58, 3)) (k : E l X r fa n (pR σ kk 13 (some v)) kc ks (pc + 3) L S) : E l X r fa n σ kc ks pc L (.ref v :: .ref kk :: S) := E_putR (ci := 7) (N := 14) (j := 13) (C := RX5) (T := TX5) (ty := (tyX5 13)) kk tyX5 rfl rfl win_X5 tyX5_ok nmX5 (by decide) rfl (by rw [hX]; exact in_TBL (mT1 (List.mem_of_getElem? (i := 227) (by decide +kernel))) (by decide +kernel)) (Or.inr ⟨rfl, hI, by rw [hX]; rfl⟩) rfl rfl (Or.inr ⟨_, rfl⟩) hsh hk hd k
theorem pR_RX0_9 {l : Launch} {X : MX} {r : Rs} {fa : Bool} {n : Nat} {σ : Mem} {kc ks pc : Nat} {L : List (Nat × Value)} {S : List Value} {kk : Nat} {v : Nat} (hX : (xY X).cls = RX0) (hI : (xY X).name = "<init>") (hsh : shape kk = some (.inl 2)) (hk : ordK kk < n) (hd : decode (xC X) pc = .ok (.putfield 9, 3)) (k : E l X r fa n (pR σ kk 0 (some v)) kc ks (pc + 3) L S) : E l X r fa n σ kc ks pc L (.ref v :: .ref kk :: S) := E_putR (ci := 2) (N := 6) (j := 0) (C := RX0) (T := TX0) (ty := (tyX0 0)) kk tyX0 rfl rfl win_X0 tyX0_ok nmX0 (by decide) rfl (by rw [hX]; exact in_TBL (mT2 (List.mem_of_getElem? (i := 46) (by decide +kernel))) (by decide +kernel)) (Or.inr ⟨rfl, hI, by rw [hX]; rfl⟩) rfl rfl (Or.inr ⟨_, rfl⟩) hsh hk hd k
theorem pR_RX0_19 {l : Launch} {X : MX} {r : Rs} {fa : Bool} {n : Nat} {σ : Mem} {kc ks pc : Nat} {L : List (Nat × Value)} {S : List Value} {kk : Nat} {v : Nat} (hX : (xY X).cls = RX0) (hI : (xY X).name = "<init>") (hsh : shape kk = some (.inl 2)) (hk : ordK kk < n) (hd : decode (xC X) pc = .ok (.putfield 19, 3)) (k : E l X r fa n (pR σ kk 5 (some v)) kc ks (pc + 3) L S) : E l X r fa n σ kc ks pc L (.ref v :: .ref kk :: S) := E_putR (ci := 2) (N := 6) (j := 5) (C := RX0) (T := TX0) (ty := (tyX0 5)) kk tyX0 rfl rfl win_X0 tyX0_ok nmX0 (by decide) rfl (by rw [hX]; exact in_TBL (mT2 (List.mem_of_getElem? (i := 53) (by decide +kernel))) (by decide +kernel)) (Or.inr ⟨rfl, hI, by rw [hX]; rfl⟩) rfl rfl (Or.inr ⟨_, rfl⟩) hsh hk hd k
theorem pR_RX7_12 {l : Launch} {X : MX} {r : Rs} {fa : Bool} {n : Nat} {σ : Mem} {kc ks pc : Nat} {L : List (Nat × Value)} {S : List Value} {kk : Nat} {v : Nat} (hX : (xY X).cls = RX7) (hI : (xY X).name = "<init>") (hsh : shape kk = some (.inl 9)) (hk : ordK kk < n) (hd : decode (xC X) pc = .ok (.putfield 12, 3)) (k : E l X r fa n (pR σ kk 0 (some v)) kc ks (pc + 3) L S) : E l X r fa n σ kc ks pc L (.ref v :: .ref kk :: S) := E_putR (ci := 9) (N := 9) (j := 0) (C := RX7) (T := TX7) (ty := (tyX7 0)) kk tyX7 rfl rfl win_X7 tyX7_ok nmX7 (by decide) rfl (by rw [hX]; exact in_TBL (mT2 (List.mem_of_getElem? (i := 69) (by decide +kernel))) (by decide +kernel)) (Or.inr ⟨rfl, hI, by rw [hX]; rfl⟩) rfl rfl (Or.inl ⟨_, rfl⟩) hsh hk hd k
theorem pR_RX7_20 {l : Launch} {X : MX} {r : Rs} {fa : Bool} {n : Nat} {σ : Mem} {kc ks pc : Nat} {L : List (Nat × Value)} {S : List Value} {kk : Nat} {v : Nat} (hX : (xY X).cls = RX7) (hI : (xY X).name = "<init>") (hsh : shape kk = some (.inl 9)) (hk : ordK kk < n) (hd : decode (xC X) pc = .ok (.putfield 20, 3)) (k : E l X r fa n (pR σ kk 1 (some v)) kc ks (pc + 3) L S) : E l X r fa n σ kc ks pc L (.ref v :: .ref kk :: S) := E_putR (ci := 9) (N := 9) (j := 1) (C := RX7) (T := TX7) (ty := (tyX7 1)) kk tyX7 rfl rfl win_X7 tyX7_ok nmX7 (by decide) rfl (by rw [hX]; exact in_TBL (mT2 (List.mem_of_getElem? (i := 70) (by decide +kernel))) (by decide +kernel)) (Or.inr ⟨rfl, hI, by rw [hX]; rfl⟩) rfl rfl (Or.inl ⟨_, rfl⟩) hsh hk hd k
theorem pR_RX7_24 {l : Launch} {X : MX} {r : Rs} {fa : Bool} {n : Nat} {σ : Mem} {kc ks pc : Nat} {L : List (Nat × Value)} {S : List Value} {kk : Nat} {v : Nat} (hX : (xY X).cls = RX7) (hI : (xY X).name = "<init>") (hsh : shape kk = some (.inl 9)) (hk : ordK kk < n) (hd : decode (xC X) pc = .ok (.putfield 24, 3)) (k : E l X r fa n (pR σ kk 2 (some v)) kc ks (pc + 3) L S) : E l X r fa n σ kc ks pc L (.ref v :: .ref kk :: S) := E_putR (ci := 9) (N := 9) (j := 2) (C := RX7) (T := TX7) (ty := (tyX7 2)) kk tyX7 rfl rfl win_X7 tyX7_ok nmX7 (by decide) rfl (by rw [hX]; exact in_TBL (mT2 (List.mem_of_getElem? (i := 71) (by decide +kernel))) (by decide +kernel)) (Or.inr ⟨rfl, hI, by rw [hX]; rfl⟩) rfl rfl (Or.inl ⟨_, rfl⟩) hsh hk hd k
theorem pR_RX7_34 {l : Launch} {X : MX} {r : Rs} {fa : Bool} {n : Nat} {σ : Mem} {kc ks pc : Nat} {L : List (Nat × Value)} {S : List Value} {kk : Nat} {v : Nat} (hX : (xY X).cls = RX7) (hI : (xY X).name = "<init>") (hsh : shape kk = some (.inl 9)) (hk : ordK kk < n) (hd : decode (xC X) pc = .ok (.putfield 34, 3)) (k : E l X r fa n (pR σ kk 4 (some v)) kc ks (pc + 3) L S) : E l X r fa n σ kc ks pc L (.ref v :: .ref kk :: S) := E_putR (ci := 9) (N := 9) (j := 4) (C := RX7) (T := TX7) (ty := (tyX7 4)) kk tyX7 rfl rfl win_X7 tyX7_ok nmX7 (by decide) rfl (by rw [hX]; exact in_TBL (mT2 (List.mem_of_getElem? (i := 73) (by decide +kernel))) (by decide +kernel)) (Or.inr ⟨rfl, hI, by rw [hX]; rfl⟩) rfl rfl (Or.inl ⟨_, rfl⟩) hsh hk hd k
theorem pR_RX7_41 {l : Launch} {X : MX} {r : Rs} {fa : Bool} {n : Nat} {σ : Mem} {kc ks pc : Nat} {L : List (Nat × Value)} {S : List Value} {kk : Nat} {v : Nat} (hX : (xY X).cls = RX7) (hI : (xY X).name = "<init>") (hsh : shape kk = some (.inl 9)) (hk : ordK kk < n) (hd : decode (xC X) pc = .ok (.putfield 41, 3)) (k : E l X r fa n (pR σ kk 5 (some v)) kc ks (pc + 3) L S) : E l X r fa n σ kc ks pc L (.ref v :: .ref kk :: S) := E_putR (ci := 9) (N := 9) (j := 5) (C := RX7) (T := TX7) (ty := (tyX7 5)) kk tyX7 rfl rfl win_X7 tyX7_ok nmX7 (by decide) rfl (by rw [hX]; exact in_TBL (mT2 (List.mem_of_getElem? (i := 74) (by decide +kernel))) (by decide +kernel)) (Or.inr ⟨rfl, hI, by rw [hX]; rfl⟩) rfl rfl (Or.inl ⟨_, rfl⟩) hsh hk hd k
theorem pR_RX7_52 {l : Launch} {X : MX} {r : Rs} {fa : Bool} {n : Nat} {σ : Mem} {kc ks pc : Nat} {L : List (Nat × Value)} {S : List Value} {kk : Nat} {v : Nat} (hX : (xY X).cls = RX7) (hI : (xY X).name = "<init>") (hsh : shape kk = some (.inl 9)) (hk : ordK kk < n) (hd : decode (xC X) pc = .ok (.putfield 52, 3)) (k : E l X r fa n (pR σ kk 8 (some v)) kc ks (pc + 3) L S) : E l X r fa n σ kc ks pc L (.ref v :: .ref kk :: S) := E_putR (ci := 9) (N := 9) (j := 8) (C := RX7) (T := TX7) (ty := (tyX7 8)) kk tyX7 rfl rfl win_X7 tyX7_ok nmX7 (by decide) rfl (by rw [hX]; exact in_TBL (mT2 (List.mem_of_getElem? (i := 77) (by decide +kernel))) (by decide +kernel)) (Or.inr ⟨rfl, hI, by rw [hX]; rfl⟩) rfl rfl (Or.inr ⟨_, rfl⟩) hsh hk hd k
theorem pR_RX8_9 {l : Launch} {X : MX} {r : Rs} {fa : Bool} {n : Nat} {σ : Mem} {kc ks pc : Nat} {L : List (Nat × Value)} {S : List Value} {kk : Nat} {v : Nat} (hX : (xY X).cls = RX8) (hI : (xY X).name = "<init>") (hsh : shape kk = some (.inl 10)) (hk : ordK kk < n) (hd : decode (xC X) pc = .ok (.putfield 9, 3)) (k : E l X r fa n (pR σ kk 1 (some v)) kc ks (pc + 3) L S) : E l X r fa n σ kc ks pc L (.ref v :: .ref kk :: S) := E_putR (ci := 10) (N := 22) (j := 1) (C := RX8) (T := TX8) (ty := (tyX8 1)) kk tyX8 rfl rfl win_X8 tyX8_ok nmX8 (by decide) rfl (by rw [hX]; exact in_TBL (mT5 (List.mem_of_getElem? (i := 128) (by decide +kernel))) (by decide +kernel)) (Or.inr ⟨rfl, hI, by rw [hX]; rfl⟩) rfl rfl (Or.inr ⟨_, rfl⟩) hsh hk hd k
theorem pR_RX8_13 {l : Launch} {X : MX} {r : Rs} {fa : Bool} {n : Nat} {σ : Mem} {kc ks pc : Nat} {L : List (Nat × Value)} {S : List Value} {kk : Nat} {v : Nat} (hX : (xY X).cls = RX8) (hI : (xY X).name = "<init>") (hsh : shape kk = some (.inl 10)) (hk : ordK kk < n) (hd : decode (xC X) pc = .ok (.putfield 13, 3)) (k : E l X r fa n (pR σ kk 4 (some v)) kc ks (pc + 3) L S) : E l X r fa n σ kc ks pc L (.ref v :: .ref kk :: S) := E_putR (ci := 10) (N := 22) (j := 4) (C := RX8) (T := TX8) (ty := (tyX8 4)) kk tyX8 rfl rfl win_X8 tyX8_ok nmX8 (by decide) rfl (by rw [hX]; exact in_TBL (mT5 (List.mem_of_getElem? (i := 131) (by decide +kernel))) (by decide +kernel)) (Or.inr ⟨rfl, hI, by rw [hX]; rfl⟩) rfl rfl (Or.inr ⟨_, rfl⟩) hsh hk hd k
theorem pR_RX8_16 {l : Launch} {X : MX} {r : Rs} {fa : Bool} {n : Nat} {σ : Mem} {kc ks pc : Nat} {L : List (Nat × Value)} {S : List Value} {kk : Nat} {v : Nat} (hX : (xY X).cls = RX8) (hI : (xY X).name = "<init>") (hsh : shape kk = some (.inl 10)) (hk : ordK kk < n) (hd : decode (xC X) pc = .ok (.putfield 16, 3)) (k : E l X r fa n (pR σ kk 5 (some v)) kc ks (pc + 3) L S) : E l X r fa n σ kc ks pc L (.ref v :: .ref kk :: S) := E_putR (ci := 10) (N := 22) (j := 5) (C := RX8) (T := TX8) (ty := (tyX8 5)) kk tyX8 rfl rfl win_X8 tyX8_ok nmX8 (by decide) rfl (by rw [hX]; exact in_TBL (mT5 (List.mem_of_getElem? (i := 132) (by decide +kernel))) (by decide +kernel)) (Or.inr ⟨rfl, hI, by rw [hX]; rfl⟩) rfl rfl (Or.inr ⟨_, rfl⟩) hsh hk hd k
theorem pR_RX8_19 {l : Launch} {X : MX} {r : Rs} {fa : Bool} {n : Nat} {σ : Mem} {kc ks pc : Nat} {L : List (Nat × Value)} {S : List Value} {kk : Nat} {v : Nat} (hX : (xY X).cls = RX8) (hI : (xY X).name = "<init>") (hsh : shape kk = some (.inl 10)) (hk : ordK kk < n) (hd : decode (xC X) pc = .ok (.putfield 19, 3)) (k : E l X r fa n (pR σ kk 6 (some v)) kc ks (pc + 3) L S) : E l X r fa n σ kc ks pc L (.ref v :: .ref kk :: S) := E_putR (ci := 10) (N := 22) (j := 6) (C := RX8) (T := TX8) (ty := (tyX8 6)) kk tyX8 rfl rfl win_X8 tyX8_ok nmX8 (by decide) rfl (by rw [hX]; exact in_TBL (mT5 (List.mem_of_getElem? (i := 133) (by decide +kernel))) (by decide +kernel)) (Or.inr ⟨rfl, hI, by rw [hX]; rfl⟩) rfl rfl (Or.inr ⟨_, rfl⟩) hsh hk hd k
theorem pR_RX8_22 {l : Launch} {X : MX} {r : Rs} {fa : Bool} {n : Nat} {σ : Mem} {kc ks pc : Nat} {L : List (Nat × Value)} {S : List Value} {kk : Nat} {v : Nat} (hX : (xY X).cls = RX8) (hI : (xY X).name = "<init>") (hsh : shape kk = some (.inl 10)) (hk : ordK kk < n) (hd : decode (xC X) pc = .ok (.putfield 22, 3)) (k : E l X r fa n (pR σ kk 7 (some v)) kc ks (pc + 3) L S) : E l X r fa n σ kc ks pc L (.ref v :: .ref kk :: S) := E_putR (ci := 10) (N := 22) (j := 7) (C := RX8) (T := TX8) (ty := (tyX8 7)) kk tyX8 rfl rfl win_X8 tyX8_ok nmX8 (by decide) rfl (by rw [hX]; exact in_TBL (mT5 (List.mem_of_getElem? (i := 134) (by decide +kernel))) (by decide +kernel)) (Or.inr ⟨rfl, hI, by rw [hX]; rfl⟩) rfl rfl (Or.inr ⟨_, rfl⟩) hsh hk hd k
theorem pR_RX8_25 {l : Launch} {X : MX} {r : Rs} {fa : Bool} {n : Nat} {σ : Mem} {kc ks pc : Nat} {L : List (Nat × Value)} {S : List Value} {kk : Nat} {v : Nat} (hX : (xY X).cls = RX8) (hI : (xY X).name = "<init>") (hsh : shape kk = some (.inl 10)) (hk : ordK kk < n) (hd : decode (xC X) pc = .ok (.putfield 25, 3)) (k : E l X r fa n (pR σ kk 12 (some v)) kc ks (pc + 3) L S) : E l X r fa n σ kc ks pc L (.ref v :: .ref kk :: S) := E_putR (ci := 10) (N := 22) (j := 12) (C := RX8) (T := TX8) (ty := (tyX8 12)) kk tyX8 rfl rfl win_X8 tyX8_ok nmX8 (by decide) rfl (by rw [hX]; exact in_TBL (mT5 (List.mem_of_getElem? (i := 139) (by decide +kernel))) (by decide +kernel)) (Or.inr ⟨rfl, hI, by rw [hX]; rfl⟩) rfl rfl (Or.inr ⟨_, rfl⟩) hsh hk hd k
theorem pR_RX8_28 {l : Launch} {X : MX} {r : Rs} {fa : Bool} {n : Nat} {σ : Mem} {kc ks pc : Nat} {L : List (Nat × Value)} {S : List Value} {kk : Nat} {v : Nat} (hX : (xY X).cls = RX8) (hI : (xY X).name = "<init>") (hsh : shape kk = some (.inl 10)) (hk : ordK kk < n) (hd : decode (xC X) pc = .ok (.putfield 28, 3)) (k : E l X r fa n (pR σ kk 13 (some v)) kc ks (pc + 3) L S) : E l X r fa n σ kc ks pc L (.ref v :: .ref kk :: S) := E_putR (ci := 10) (N := 22) (j := 13) (C := RX8) (T := TX8) (ty := (tyX8 13)) kk tyX8 rfl rfl win_X8 tyX8_ok nmX8 (by decide) rfl (by rw [hX]; exact in_TBL (mT5 (List.mem_of_getElem? (i := 140) (by decide +kernel))) (by decide +kernel)) (Or.inr ⟨rfl, hI, by rw [hX]; rfl⟩) rfl rfl (Or.inr ⟨_, rfl⟩) hsh hk hd k
theorem pR_RX8_31 {l : Launch} {X : MX} {r : Rs} {fa : Bool} {n : Nat} {σ : Mem} {kc ks pc : Nat} {L : List (Nat × Value)} {S : List Value} {kk : Nat} {v : Nat} (hX : (xY X).cls = RX8) (hI : (xY X).name = "<init>") (hsh : shape kk = some (.inl 10)) (hk : ordK kk < n) (hd : decode (xC X) pc = .ok (.putfield 31, 3)) (k : E l X r fa n (pR σ kk 16 (some v)) kc ks (pc + 3) L S) : E l X r fa n σ kc ks pc L (.ref v :: .ref kk :: S) := E_putR (ci := 10) (N := 22) (j := 16) (C := RX8) (T := TX8) (ty := (tyX8 16)) kk tyX8 rfl rfl win_X8 tyX8_ok nmX8 (by decide) rfl (by rw [hX]; exact in_TBL (mT5 (List.mem_of_getElem? (i := 143) (by decide +kernel))) (by decide +kernel)) (Or.inr ⟨rfl, hI, by rw [hX]; rfl⟩) rfl rfl (Or.inr ⟨_, rfl⟩) hsh hk hd k
theorem pR_RX8_34 {l : Launch} {X : MX} {r : Rs} {fa : Bool} {n : Nat} {σ : Mem} {kc ks pc : Nat} {L : List (Nat × Value)} {S : List Value} {kk : Nat} {v : Nat} (hX : (xY X).cls = RX8) (hI : (xY X).name = "<init>") (hsh : shape kk = some (.inl 10)) (hk : ordK kk < n) (hd : decode (xC X) pc = .ok (.putfield 34, 3)) (k : E l X r fa n (pR σ kk 17 (some v)) kc ks (pc + 3) L S) : E l X r fa n σ kc ks pc L (.ref v :: .ref kk :: S) := E_putR (ci := 10) (N := 22) (j := 17) (C := RX8) (T := TX8) (ty := (tyX8 17)) kk tyX8 rfl rfl win_X8 tyX8_ok nmX8 (by decide) rfl (by rw [hX]; exact in_TBL (mT5 (List.mem_of_getElem? (i := 144) (by decide +kernel))) (by decide +kernel)) (Or.inr ⟨rfl, hI, by rw [hX]; rfl⟩) rfl rfl (Or.inr ⟨_, rfl⟩) hsh hk hd k
theorem gf_RX7_16 {l : Launch} {X : MX} {r : Rs} {fa : Bool} {n : Nat} {σ : Mem} {kc ks pc : Nat} {L : List (Nat × Value)} {S : List Value} {kk : Nat} {v : Nat} (hX : (xY X).cls = RX7) (hsh : shape kk = some (.inl 7)) (hk : ordK kk < n) (hv : gR σ kk 0 = some v) (hd : decode (xC X) pc = .ok (.getfield 16, 3)) (k : E l X r fa n σ kc ks (pc + 3) L (.ref v :: S)) : E l X r fa n σ kc ks pc L (.ref kk :: S) := E_get (ci := 7) (N := 14) (j := 0) (C := RX5) (T := TX5) kk rfl rfl win_X5 (by decide) rfl (by rw [hX]; exact in_TBL (mT1 (List.mem_of_getElem? (i := 213) (by decide +kernel))) (by decide +kernel)) hsh hk (by show rfA (gR σ kk 0) = _; rw [hv]; rfl) hd k
