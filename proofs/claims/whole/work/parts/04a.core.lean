-- THE LAYER: a memory of typed slots by cell number, its picture in the heap, a judgement E over it, rows
-- words that last
def TBL : List Cond := lw_tbl.filter goodWord
def isNW : Cond → Bool
  | .castable _ _ => true
  | .methodLinkNest _ _ _ _ => true
  | .declares _ => true
  | _ => false
def NWL : List Cond := lw_tbl.filter isNW
theorem in_TBL {w : Cond} (h : w ∈ lw_tbl) (hg : goodWord w = true) : w ∈ TBL := List.mem_filter.mpr ⟨h, hg⟩
theorem in_NWL {w : Cond} (h : w ∈ lw_tbl) (hg : isNW w = true) : w ∈ NWL := List.mem_filter.mpr ⟨h, hg⟩
theorem TBL_self : GoodIn TBL TBL := fun w hw => ⟨hw, good_of_word (List.mem_filter.mp hw).2⟩
theorem TBL_cons {w : Cond} (h : w ∈ TBL) : GoodIn TBL (w :: TBL) := fun v hv => by
  rcases List.mem_cons.mp hv with rfl | hv
  · exact TBL_self v h
  · exact TBL_self v hv
theorem TBL_cons2 {w : Cond} {l : List Cond} (hl : ∀ v ∈ l, v ∈ TBL) (h : w ∈ TBL) : GoodIn TBL (l ++ (w :: TBL)) := fun v hv => by
  rcases List.mem_append.mp hv with hv | hv
  · exact TBL_self v (hl v hv)
  · exact TBL_cons h v hv
theorem nw_keep {w : Cond} (h : isNW w = true) {s U : State} (hW : s.WarmedH U.vm) (hZ : va_Nw w s) : va_Nw w U := by
  cases w <;> first | exact absurd (show false = true from h) (by decide) | exact va_Nw.warmC hW hZ | exact va_Nw.warmM hW hZ | exact va_Nw.warmD hW hZ
theorem nw_tab {w : Cond} (h : isNW w = true) : w.onTables = true := by
  cases w <;> first | exact absurd (show false = true from h) (by decide) | rfl
-- memory
abbrev Mem : Type := (Nat → Nat → Int32) × (Nat → Nat → Int64) × (Nat → Nat → Option Nat) × (Nat → Nat → UInt64)
def gI (σ : Mem) (k j : Nat) : Int32 := σ.1 k j
def gL (σ : Mem) (k j : Nat) : Int64 := σ.2.1 k j
def gR (σ : Mem) (k j : Nat) : Option Nat := σ.2.2.1 k j
def gD (σ : Mem) (k j : Nat) : UInt64 := σ.2.2.2 k j
def u2 {α : Type} (f : Nat → Nat → α) (k j : Nat) (v : α) : Nat → Nat → α := fun a b => if a = k ∧ b = j then v else f a b
def pI (σ : Mem) (k j : Nat) (v : Int32) : Mem := (u2 σ.1 k j v, σ.2)
def pL (σ : Mem) (k j : Nat) (v : Int64) : Mem := (σ.1, u2 σ.2.1 k j v, σ.2.2)
def pR (σ : Mem) (k j : Nat) (v : Option Nat) : Mem := (σ.1, σ.2.1, u2 σ.2.2.1 k j v, σ.2.2.2)
def pD (σ : Mem) (k j : Nat) (v : UInt64) : Mem := (σ.1, σ.2.1, σ.2.2.1, u2 σ.2.2.2 k j v)
-- the layout: cell numbers, their order, their shapes
def ordK (k : Nat) : Nat :=
  if k < 320 then (if k < 32 then 2 + k else if k < 64 then 41 + (k - 32) else 70 + 27 * (k / 32 - 2) + k % 32)
  else if k < 322 then k - 320 else if k < 334 then k - 322 + 29 else if k < 336 then k - 334 + 68 else k - 336 + 286
def idK (i : Nat) : Nat :=
  if i < 2 then 320 + i else if i < 29 then i - 2 else if i < 41 then 322 + (i - 29) else if i < 68 then 32 + (i - 41)
  else if i < 70 then 334 + (i - 68) else if i < 286 then 64 + 32 * ((i - 70) / 27) + (i - 70) % 27 else 336 + (i - 286)
abbrev Shp : Type := Nat ⊕ (Nat × Nat)
def campSh (o : Nat) : Option Shp :=
  if o = 0 then some (.inl 3) else if o = 1 then some (.inr (4, 6)) else if o < 8 then some (.inl 6) else if o = 8 then some (.inr (5, 12))
  else if o < 21 then some (.inl 5) else if o = 21 then some (.inr (6, 4)) else if o < 26 then some (.inl 8) else if o = 26 then some (.inr (0, 3)) else none
def shape (k : Nat) : Option Shp :=
  if k < 320 then campSh (k % 32)
  else if k = 320 then some (.inl 9) else if k = 321 then some (.inl 7) else if k = 322 then some (.inl 5) else if k = 323 then some (.inr (5, 3))
  else if k < 330 then some (.inr (0, 3)) else if k < 332 then some (.inr (1, 6)) else if k = 332 then some (.inr (0, 180)) else if k = 333 then some (.inr (0, 6))
  else if k = 334 then some (.inl 4) else if k = 335 then some (.inr (7, 8)) else if k = 336 then some (.inl 2) else if k = 337 then some (.inr (2, 30))
  else if k = 338 then some (.inr (0, 5)) else if k = 339 then some (.inr (0, 6)) else if k = 340 then some (.inl 10) else if k = 341 then some (.inr (0, 1700))
  else if k < 346 then some (.inr (0, 13)) else if k = 346 then some (.inr (0, 2)) else if k = 347 then some (.inr (0, 6)) else if k = 348 then some (.inr (0, 6))
  else if k = 349 then some (.inr (2, 30)) else if k = 350 then some (.inr (1, 1)) else if k = 351 then some (.inr (3, 1)) else none
def NF : Nat := 302
theorem shape_all : ∀ k, k < 352 → shape k ≠ none → ordK k < 302 ∧ idK (ordK k) = k := by decide +kernel
theorem shape_lt {k : Nat} {x : Shp} (h : shape k = some x) : k < 352 := by
  rcases Nat.lt_or_ge k 352 with q | q
  · exact q
  · exfalso
    unfold shape at h
    repeat (rw [if_neg (by omega)] at h)
    cases h
theorem shape_ord {k : Nat} {x : Shp} (h : shape k = some x) : ordK k < NF ∧ idK (ordK k) = k := shape_all k (shape_lt h) (by rw [h]; exact fun q => by cases q)
def adK (base b k : Nat) : Nat := if k = 400 then b else base + ordK k
theorem adK_sh {base b k : Nat} {x : Shp} (h : shape k = some x) : adK base b k = base + ordK k := if_neg (fun q => by have := shape_lt h; omega)
def cv (base b : Nat) : Value → Value
  | .ref k => .ref (adK base b k)
  | v => v
def cvS (base b : Nat) (S : List Value) : List Value := S.map (cv base b)
def cvL (base b : Nat) (L : List (Nat × Value)) : List (Nat × Value) := L.map (fun q => (q.1, cv base b q.2))
def rfA (r : Option Nat) : Value := match r with
  | none => .null
  | some k => .ref k
def fvA (σ : Mem) (k j : Nat) (ty : FieldType) : Value := match ty with
  | .long => .long (gL σ k j)
  | .double => .double (gD σ k j)
  | .object _ => rfA (gR σ k j)
  | .array _ => rfA (gR σ k j)
  | _ => .int (gI σ k j)
def fty (ci j : Nat) : FieldType := match ci with
  | 2 => tyX0 j
  | 3 => tyX1 j
  | 4 => tyX2 j
  | 5 => tyX3 j
  | 6 => tyX4 j
  | 7 => tyX5 j
  | 8 => tyX6 j
  | 9 => tyX7 j
  | _ => tyX8 j
def nF (ci : Nat) : Nat := match ci with
  | 2 => 6
  | 3 => 9
  | 4 => 3
  | 5 => 11
  | 6 => 5
  | 7 => 14
  | 8 => 3
  | 9 => 9
  | _ => 22
def arE (base b : Nat) (σ : Mem) (k t : Nat) : (Nat → Int32) ⊕ (Nat → Int64) ⊕ (Nat → UInt32) ⊕ (Nat → UInt64) ⊕ (Nat → Option Nat) :=
  if t = 0 then .inl (gI σ k) else if t = 1 then .inr (.inl (gL σ k)) else if t = 2 then .inl (gI σ k) else if t = 3 then .inr (.inr (.inr (.inl (gD σ k)))) else .inr (.inr (.inr (.inr (fun j => (gR σ k j).map (adK base b)))))
def fsE (base b : Nat) (σ : Mem) (k ci : Nat) : List Value := (List.range (nF ci)).map (fun j => cv base b (fvA σ k j (fty ci j)))
def cellE (aC : Nat → ClassId) (base b : Nat) (σ : Mem) (k : Nat) : va_E := match shape k with
  | some (.inl ci) => .inr (ci, fsE base b σ k ci)
  | some (.inr (t, n)) => .inl (aC t, n, arE base b σ k t)
  | none => .inr (0, [])
theorem cellE_o {aC : Nat → ClassId} {base b : Nat} {σ : Mem} {k ci : Nat} (h : shape k = some (.inl ci)) : cellE aC base b σ k = .inr (ci, fsE base b σ k ci) := by unfold cellE; rw [h]
theorem cellE_a {aC : Nat → ClassId} {base b : Nat} {σ : Mem} {k t n : Nat} (h : shape k = some (.inr (t, n))) : cellE aC base b σ k = .inl (aC t, n, arE base b σ k t) := by unfold cellE; rw [h]
def Wd (base b : Nat) (aC : Nat → ClassId) (n : Nat) (σ : Mem) : va_W := (List.range n).map (fun i => (base + i, cellE aC base b σ (idK i)))
theorem Wd_get {base b : Nat} {aC : Nat → ClassId} {n : Nat} {σ : Mem} {k : Nat} {x : Shp} (h : shape k = some x) (hn : ordK k < n) : (Wd base b aC n σ)[ordK k]? = some (adK base b k, cellE aC base b σ k) := by
  unfold Wd
  rw [List.getElem?_map, List.getElem?_range hn]
  simp only [Option.map_some]
  rw [(shape_ord h).2, adK_sh h]
theorem Wd_len {base b : Nat} {aC : Nat → ClassId} {n : Nat} {σ : Mem} : (Wd base b aC n σ).length = n := by simp [Wd]
theorem Wd_at {base b : Nat} {aC : Nat → ClassId} {n : Nat} {σ : Mem} {i : Nat} (h : i < n) : (Wd base b aC n σ)[i]? = some (base + i, cellE aC base b σ (idK i)) := by
  unfold Wd
  rw [List.getElem?_map, List.getElem?_range h]
  rfl
theorem Wd_D {base b : Nat} {aC : Nat → ClassId} {n : Nat} {σ : Mem} : va_D (fun q : Nat => base ≤ q) (Wd base b aC n σ) := by
  refine ⟨fun i j p q hi hj e => ?_, fun k q hk => ?_⟩
  · have h1 : i < n := by have := (List.getElem?_eq_some_iff.mp hi).1; rwa [Wd_len] at this
    have h2 : j < n := by have := (List.getElem?_eq_some_iff.mp hj).1; rwa [Wd_len] at this
    rw [Wd_at h1] at hi
    rw [Wd_at h2] at hj
    cases hi; cases hj
    simpa using e
  · have h1 : k < n := by have := (List.getElem?_eq_some_iff.mp hk).1; rwa [Wd_len] at this
    rw [Wd_at h1] at hk
    cases hk
    exact Nat.le_add_right _ _
theorem idK_sh : ∀ i, i < 302 → ordK (idK i) = i := by decide +kernel
/-- one cell put anew, all others the same -/
theorem Wd_set {base b : Nat} {aC : Nat → ClassId} {n : Nat} {σ σ' : Mem} {k : Nat} {x : Shp} {e : va_E} (h : shape k = some x) (hn : ordK k < n) (hk : cellE aC base b σ' k = e) (ho : ∀ j, j ≠ k → cellE aC base b σ' j = cellE aC base b σ j) : (Wd base b aC n σ).set (ordK k) (adK base b k, e) = Wd base b aC n σ' := by
  apply List.ext_getElem?
  intro i
  rw [List.getElem?_set]
  by_cases hi : ordK k = i
  · subst hi
    rw [if_pos rfl, if_pos (by rw [Wd_len]; exact hn), Wd_get h hn, hk]
  · rw [if_neg hi]
    by_cases hin : i < n
    · rw [Wd_at hin, Wd_at hin, ho]
      intro q
      refine hi ?_
      rw [← q]
      by_cases hb : i < 302
      · exact idK_sh i hb
      · exfalso
        have := (shape_ord h)
        have h3 := shape_lt h
        rw [← q] at h3
        unfold idK at h3
        repeat (rw [if_neg (by omega)] at h3)
        omega
    · rw [List.getElem?_eq_none (by rw [Wd_len]; omega), List.getElem?_eq_none (by rw [Wd_len]; omega)]
theorem Wd_push {base b : Nat} {aC : Nat → ClassId} {n : Nat} {σ : Mem} {e : va_E} (h : cellE aC base b σ (idK n) = e) : Wd base b aC n σ ++ [(base + n, e)] = Wd base b aC (n + 1) σ := by
  unfold Wd
  rw [List.range_succ, List.map_append]
  simp [h]
-- what a write does to the cells
theorem fvA_I {σ : Mem} {k j k' j' : Nat} {v : Int32} {ty : FieldType} (h : ¬ (k' = k ∧ j' = j)) : fvA (pI σ k j v) k' j' ty = fvA σ k' j' ty := by
  cases ty <;> simp [fvA, gI, gL, gR, gD, pI, u2, h]
theorem fvA_L {σ : Mem} {k j k' j' : Nat} {v : Int64} {ty : FieldType} (h : ¬ (k' = k ∧ j' = j)) : fvA (pL σ k j v) k' j' ty = fvA σ k' j' ty := by
  cases ty <;> simp [fvA, gI, gL, gR, gD, pL, u2, h]
theorem fvA_R {σ : Mem} {k j k' j' : Nat} {v : Option Nat} {ty : FieldType} (h : ¬ (k' = k ∧ j' = j)) : fvA (pR σ k j v) k' j' ty = fvA σ k' j' ty := by
  cases ty <;> simp [fvA, gI, gL, gR, gD, pR, u2, h]
theorem fvA_D {σ : Mem} {k j k' j' : Nat} {v : UInt64} {ty : FieldType} (h : ¬ (k' = k ∧ j' = j)) : fvA (pD σ k j v) k' j' ty = fvA σ k' j' ty := by
  cases ty <;> simp [fvA, gI, gL, gR, gD, pD, u2, h]
/-- two memories with the same slots but those of cell k -/
def offK (σ σ' : Mem) (k : Nat) : Prop := ∀ k', k' ≠ k → (∀ j, gI σ' k' j = gI σ k' j ∧ gL σ' k' j = gL σ k' j ∧ gR σ' k' j = gR σ k' j ∧ gD σ' k' j = gD σ k' j)
theorem offK_I {σ : Mem} {k j : Nat} {v : Int32} : offK σ (pI σ k j v) k := fun k' h j' => by simp [gI, gL, gR, gD, pI, u2, h]
theorem offK_L {σ : Mem} {k j : Nat} {v : Int64} : offK σ (pL σ k j v) k := fun k' h j' => by simp [gI, gL, gR, gD, pL, u2, h]
theorem offK_R {σ : Mem} {k j : Nat} {v : Option Nat} : offK σ (pR σ k j v) k := fun k' h j' => by simp [gI, gL, gR, gD, pR, u2, h]
theorem offK_D {σ : Mem} {k j : Nat} {v : UInt64} : offK σ (pD σ k j v) k := fun k' h j' => by simp [gI, gL, gR, gD, pD, u2, h]
theorem cellE_off {aC : Nat → ClassId} {base b : Nat} {σ σ' : Mem} {k j : Nat} (h : offK σ σ' k) (hj : j ≠ k) : cellE aC base b σ' j = cellE aC base b σ j := by
  have h1 := h j hj
  have e : ∀ i ty, fvA σ' j i ty = fvA σ j i ty := fun i ty => by
    obtain ⟨a1, a2, a3, a4⟩ := h1 i
    cases ty <;> simp [fvA, a1, a2, a3, a4]
  have f1 : gI σ' j = gI σ j := funext fun i => (h1 i).1
  have f2 : gL σ' j = gL σ j := funext fun i => (h1 i).2.1
  have f3 : gR σ' j = gR σ j := funext fun i => (h1 i).2.2.1
  have f4 : gD σ' j = gD σ j := funext fun i => (h1 i).2.2.2
  unfold cellE
  cases hs : shape j with
  | none => rfl
  | some x =>
    cases x with
    | inl ci => simp only [fsE, e]
    | inr q => simp only [arE, f1, f2, f3, f4]
theorem fsE_set {base b : Nat} {σ σ' : Mem} {k ci j : Nat} {v : Value} (hv : fvA σ' k j (fty ci j) = v) (ho : ∀ i, i ≠ j → fvA σ' k i (fty ci i) = fvA σ k i (fty ci i)) : fsE base b σ' k ci = (fsE base b σ k ci).set j (cv base b v) := by
  unfold fsE
  apply List.ext_getElem?
  intro i
  rw [List.getElem?_set]
  by_cases hi : j = i
  · subst hi
    by_cases hj : j < nF ci
    · rw [if_pos rfl, if_pos (by simpa using hj), List.getElem?_map, List.getElem?_range hj]
      simp [hv]
    · rw [if_pos rfl, if_neg (by simpa using hj), List.getElem?_eq_none (by simp; omega)]
  · rw [if_neg hi, List.getElem?_map, List.getElem?_map]
    by_cases hn : i < nF ci
    · rw [List.getElem?_range hn]
      simp [ho i (fun q => hi q.symm)]
    · rw [List.getElem?_eq_none (by simp; omega)]
      rfl
theorem fsE_get {base b : Nat} {σ : Mem} {k ci j : Nat} (h : j < nF ci) : (fsE base b σ k ci)[j]? = some (cv base b (fvA σ k j (fty ci j))) := by
  unfold fsE
  rw [List.getElem?_map, List.getElem?_range h]
  rfl
theorem fsE_len {base b : Nat} {σ : Mem} {k ci : Nat} : (fsE base b σ k ci).length = nF ci := by simp [fsE]
