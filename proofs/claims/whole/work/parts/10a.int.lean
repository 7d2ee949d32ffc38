def oI (z : Int) : Int32 := Int32.ofInt z
theorem oI_self (x : Int32) : oI x.toInt = x := Int32.ofInt_toInt x
theorem oI_add (a b : Int) : oI a + oI b = oI (a + b) := (Int32.ofInt_add ..).symm
theorem oI_sub (a b : Int) : oI a - oI b = oI (a - b) := (Int32.ofInt_sub ..).symm
theorem oI_mul (a b : Int) : oI a * oI b = oI (a * b) := (Int32.ofInt_mul ..).symm
theorem oI_neg (a : Int) : - oI a = oI (-a) := (Int32.ofInt_neg ..).symm
theorem oI_lit (n : Nat) : (OfNat.ofNat n : Int32) = oI (OfNat.ofNat n) := rfl
theorem oI_nI (n : Nat) : nI n = oI n := by unfold nI oI; rfl
theorem oI_toInt {z : Int} (h : -2147483648 ≤ z) (h2 : z < 2147483648) : (oI z).toInt = z := Int32.toInt_ofInt_of_le h h2
theorem oI_le {a b : Int} (h : -2147483648 ≤ a) (h2 : a < 2147483648) (h3 : -2147483648 ≤ b) (h4 : b < 2147483648) : oI a ≤ oI b ↔ a ≤ b := by
  rw [Int32.le_iff_toInt_le, oI_toInt h h2, oI_toInt h3 h4]
theorem oI_lt {a b : Int} (h : -2147483648 ≤ a) (h2 : a < 2147483648) (h3 : -2147483648 ≤ b) (h4 : b < 2147483648) : oI a < oI b ↔ a < b := by
  rw [Int32.lt_iff_toInt_lt, oI_toInt h h2, oI_toInt h3 h4]
theorem oI_eq {a b : Int} (h : -2147483648 ≤ a) (h2 : a < 2147483648) (h3 : -2147483648 ≤ b) (h4 : b < 2147483648) : oI a = oI b ↔ a = b := by
  rw [← Int32.toInt_inj, oI_toInt h h2, oI_toInt h3 h4]
theorem oI_nat {a : Int} (h : -2147483648 ≤ a) (h2 : a < 2147483648) : (oI a).toNatClampNeg = a.toNat := by
  rw [← Int32.toNat_toInt, oI_toInt h h2]
theorem oI_inR {a : Int} {n : Nat} (h : -2147483648 ≤ a) (h2 : a < 2147483648) : inR (oI a) n ↔ 0 ≤ a ∧ a < n := by
  unfold inR
  rw [oI_nat h h2, oI_lit, oI_lt h h2 (by decide) (by decide)]
  show ¬ (a < 0 ∨ n ≤ a.toNat) ↔ _
  omega
def iI (s : Mem) (k j : Nat) : Int := (gI s k j).toInt
theorem gI_oI (s : Mem) (k j : Nat) : gI s k j = oI (iI s k j) := (oI_self _).symm
theorem iI_lo (s : Mem) (k j : Nat) : -2147483648 ≤ iI s k j := Int32.le_toInt _
theorem iI_hi (s : Mem) (k j : Nat) : iI s k j < 2147483648 := Int32.toInt_lt _
theorem gI_p (s : Mem) (k j : Nat) (v : Int32) (a b : Nat) : gI (pI s k j v) a b = if a = k ∧ b = j then v else gI s a b := rfl
theorem iI_p {s : Mem} {k j : Nat} {v : Int} (h : -2147483648 ≤ v) (h2 : v < 2147483648) (a b : Nat) : iI (pI s k j (oI v)) a b = if a = k ∧ b = j then v else iI s a b := by
  unfold iI
  rw [gI_p]
  split
  · exact oI_toInt h h2
  · rfl
theorem iI_pL (s : Mem) (k j : Nat) (v : Int64) (a b : Nat) : iI (pL s k j v) a b = iI s a b := rfl
theorem iI_pR (s : Mem) (k j : Nat) (v : Option Nat) (a b : Nat) : iI (pR s k j v) a b = iI s a b := rfl
theorem iI_pD (s : Mem) (k j : Nat) (v : UInt64) (a b : Nat) : iI (pD s k j v) a b = iI s a b := rfl
theorem gL_p (s : Mem) (k j : Nat) (v : Int64) (a b : Nat) : gL (pL s k j v) a b = if a = k ∧ b = j then v else gL s a b := rfl
theorem gL_pI (s : Mem) (k j : Nat) (v : Int32) (a b : Nat) : gL (pI s k j v) a b = gL s a b := rfl
theorem gL_pR (s : Mem) (k j : Nat) (v : Option Nat) (a b : Nat) : gL (pR s k j v) a b = gL s a b := rfl
theorem gL_pD (s : Mem) (k j : Nat) (v : UInt64) (a b : Nat) : gL (pD s k j v) a b = gL s a b := rfl
theorem gR_p (s : Mem) (k j : Nat) (v : Option Nat) (a b : Nat) : gR (pR s k j v) a b = if a = k ∧ b = j then v else gR s a b := rfl
theorem gR_pI (s : Mem) (k j : Nat) (v : Int32) (a b : Nat) : gR (pI s k j v) a b = gR s a b := rfl
theorem gR_pL (s : Mem) (k j : Nat) (v : Int64) (a b : Nat) : gR (pL s k j v) a b = gR s a b := rfl
theorem gR_pD (s : Mem) (k j : Nat) (v : UInt64) (a b : Nat) : gR (pD s k j v) a b = gR s a b := rfl
theorem pI_self (s : Mem) (k j : Nat) : pI s k j (gI s k j) = s := by
  unfold pI u2 gI
  refine Prod.ext ?_ rfl
  funext a b
  dsimp only
  split
  · rename_i h; rw [h.1, h.2]
  · rfl
theorem pI_iI (s : Mem) (k j : Nat) : pI s k j (oI (iI s k j)) = s := by rw [← gI_oI]; exact pI_self s k j
theorem bd_some {α β : Type} (a : α) (f : α → Option β) : bd (some a) f = f a := rfl
theorem gd_t {α : Type} {p : Prop} [Decidable p] (h : p) (o : Option α) : gd p o = o := if_pos h
theorem nx_eq {α β : Type} (a : α) (f : α → Option β) : nx a f = f a := rfl
theorem xb_r {α β : Type} (v : α) (m : Mem) (f : α → Mem → Option ((Nat ⊕ β) × Mem)) : xb ((.inr v : Nat ⊕ α), m) f = f v m := rfl
theorem xb_l {α β : Type} (e : Nat) (m : Mem) (f : α → Mem → Option ((Nat ⊕ β) × Mem)) : xb ((.inl e : Nat ⊕ α), m) f = some (.inl e, m) := rfl
theorem xc_r {α β : Type} (v : α) (m : Mem) (g : Nat → Mem → Option β) (f : α → Mem → Option β) : xc ((.inr v : Nat ⊕ α), m) g f = f v m := rfl
theorem xc_l {α β : Type} (e : Nat) (m : Mem) (g : Nat → Mem → Option β) (f : α → Mem → Option β) : xc ((.inl e : Nat ⊕ α), m) g f = g e m := rfl
-- the fixed references
def rfx (k j : Nat) : Option Nat :=
  if k < 320 then
    (let A := 32 * (k / 32)
     let o := k % 32
     if o = 0 then (if j = 0 then some (A + 1) else if j = 2 then some (A + 8) else if j = 4 then some (A + 21) else if j = 6 then some (A + 26) else none)
     else if o = 1 then (if j < 6 then some (A + 2 + j) else none)
     else if o = 8 then (if j < 12 then some (A + 9 + j) else none)
     else if o = 21 then (if j < 4 then some (A + 22 + j) else none)
     else none)
  else if k = 320 then (if j = 0 then some 321 else if j = 1 then some 0 else if j = 2 then some 32 else if j = 4 then some 334 else if j = 5 then some 336 else if j = 8 then some 339 else none)
  else if k = 321 then (if j = 0 then some 0 else if j = 1 then some 322 else if 3 ≤ j ∧ j < 14 then some (320 + j) else none)
  else if k = 334 then (if j = 0 then some 335 else none)
  else if k = 335 then (if j < 8 then some (64 + 32 * j) else none)
  else if k = 336 then (if j = 0 then some 337 else if j = 5 then some 338 else none)
  else if k = 340 then (if j = 1 then some 341 else if j = 4 then some 342 else if j = 5 then some 343 else if j = 6 then some 344 else if j = 7 then some 345 else if j = 12 then some 346 else if j = 13 then some 347 else if j = 16 then some 348 else if j = 17 then some 349 else none)
  else none
def RO (s : Mem) : Prop := ∀ k j r, rfx k j = some r → gR s k j = some r
theorem RO_I {s : Mem} (h : RO s) (k j : Nat) (v : Int32) : RO (pI s k j v) := h
theorem RO_L {s : Mem} (h : RO s) (k j : Nat) (v : Int64) : RO (pL s k j v) := h
theorem RO_D {s : Mem} (h : RO s) (k j : Nat) (v : UInt64) : RO (pD s k j v) := h
theorem RO_R {s : Mem} (h : RO s) (j : Nat) (v : Option Nat) : RO (pR s 323 j v) := by
  intro k i r hr
  rw [gR_p]
  by_cases hk : k = 323
  · rw [hk] at hr
    cases hr
  · rw [if_neg (fun q => hk q.1)]
    exact h k i r hr
theorem ldO_of {s : Mem} (h : RO s) {k j ci r : Nat} (h2 : rfx k j = some r) (h3 : shape r = some (.inl ci)) : ldO s k j ci = some r := by
  unfold ldO
  rw [h k j r h2]
  exact if_pos h3
theorem ldA_of {s : Mem} (h : RO s) {k j t r n : Nat} (h2 : rfx k j = some r) (h3 : aLen r t = some n) : ldA s k j t = some (r, n) := by
  unfold ldA
  rw [h k j r h2]
  dsimp only
  rw [h3]
def cA (A : Nat) : Prop := A < 320 ∧ A % 32 = 0
theorem ld_320_0 {s : Mem} (h : RO s) : ldO s 320 0 7 = some 321 := ldO_of h rfl rfl
theorem ld_320_1 {s : Mem} (h : RO s) : ldO s 320 1 3 = some 0 := ldO_of h rfl rfl
theorem ld_320_2 {s : Mem} (h : RO s) : ldO s 320 2 3 = some 32 := ldO_of h rfl rfl
theorem ld_320_4 {s : Mem} (h : RO s) : ldO s 320 4 4 = some 334 := ldO_of h rfl rfl
theorem ld_320_5 {s : Mem} (h : RO s) : ldO s 320 5 2 = some 336 := ldO_of h rfl rfl
theorem ld_321_0 {s : Mem} (h : RO s) : ldO s 321 0 3 = some 0 := ldO_of h rfl rfl
theorem ld_321_1 {s : Mem} (h : RO s) : ldO s 321 1 5 = some 322 := ldO_of h rfl rfl
theorem ld_320_8 {s : Mem} (h : RO s) : ldA s 320 8 0 = some (339, 6) := ldA_of h rfl rfl
theorem ld_321_3 {s : Mem} (h : RO s) : ldA s 321 3 5 = some (323, 3) := ldA_of h rfl rfl
theorem ld_321_4 {s : Mem} (h : RO s) : ldA s 321 4 0 = some (324, 3) := ldA_of h rfl rfl
theorem ld_321_5 {s : Mem} (h : RO s) : ldA s 321 5 0 = some (325, 3) := ldA_of h rfl rfl
theorem ld_321_6 {s : Mem} (h : RO s) : ldA s 321 6 0 = some (326, 3) := ldA_of h rfl rfl
theorem ld_321_7 {s : Mem} (h : RO s) : ldA s 321 7 0 = some (327, 3) := ldA_of h rfl rfl
theorem ld_321_8 {s : Mem} (h : RO s) : ldA s 321 8 0 = some (328, 3) := ldA_of h rfl rfl
theorem ld_321_9 {s : Mem} (h : RO s) : ldA s 321 9 0 = some (329, 3) := ldA_of h rfl rfl
theorem ld_321_10 {s : Mem} (h : RO s) : ldA s 321 10 1 = some (330, 6) := ldA_of h rfl rfl
theorem ld_321_11 {s : Mem} (h : RO s) : ldA s 321 11 1 = some (331, 6) := ldA_of h rfl rfl
theorem ld_321_12 {s : Mem} (h : RO s) : ldA s 321 12 0 = some (332, 180) := ldA_of h rfl rfl
theorem ld_321_13 {s : Mem} (h : RO s) : ldA s 321 13 0 = some (333, 6) := ldA_of h rfl rfl
theorem ld_334_0 {s : Mem} (h : RO s) : ldA s 334 0 7 = some (335, 8) := ldA_of h rfl rfl
theorem ld_336_0 {s : Mem} (h : RO s) : ldA s 336 0 2 = some (337, 30) := ldA_of h rfl rfl
theorem ld_336_5 {s : Mem} (h : RO s) : ldA s 336 5 0 = some (338, 5) := ldA_of h rfl rfl
theorem ld_340_1 {s : Mem} (h : RO s) : ldA s 340 1 0 = some (341, 1700) := ldA_of h rfl rfl
theorem ld_340_4 {s : Mem} (h : RO s) : ldA s 340 4 0 = some (342, 13) := ldA_of h rfl rfl
theorem ld_340_5 {s : Mem} (h : RO s) : ldA s 340 5 0 = some (343, 13) := ldA_of h rfl rfl
theorem ld_340_6 {s : Mem} (h : RO s) : ldA s 340 6 0 = some (344, 13) := ldA_of h rfl rfl
theorem ld_340_7 {s : Mem} (h : RO s) : ldA s 340 7 0 = some (345, 13) := ldA_of h rfl rfl
theorem ld_340_12 {s : Mem} (h : RO s) : ldA s 340 12 0 = some (346, 2) := ldA_of h rfl rfl
theorem ld_340_13 {s : Mem} (h : RO s) : ldA s 340 13 0 = some (347, 6) := ldA_of h rfl rfl
theorem ld_340_16 {s : Mem} (h : RO s) : ldA s 340 16 0 = some (348, 6) := ldA_of h rfl rfl
theorem ld_340_17 {s : Mem} (h : RO s) : ldA s 340 17 2 = some (349, 30) := ldA_of h rfl rfl
theorem rfx_c {A : Nat} (hA : cA A) (o j : Nat) (ho : o < 32) : rfx (A + o) j = (if o = 0 then (if j = 0 then some (A + 1) else if j = 2 then some (A + 8) else if j = 4 then some (A + 21) else if j = 6 then some (A + 26) else none)
     else if o = 1 then (if j < 6 then some (A + 2 + j) else none)
     else if o = 8 then (if j < 12 then some (A + 9 + j) else none)
     else if o = 21 then (if j < 4 then some (A + 22 + j) else none)
     else none) := by
  obtain ⟨h1, h2⟩ := hA
  unfold rfx
  rw [if_pos (by omega), show 32 * ((A + o) / 32) = A by omega, show (A + o) % 32 = o by omega]
theorem shape_c {A : Nat} (hA : cA A) (o : Nat) (ho : o < 32) : shape (A + o) = campSh o := by
  obtain ⟨h1, h2⟩ := hA
  unfold shape
  rw [if_pos (by omega), show (A + o) % 32 = o by omega]
theorem aLen_c {A : Nat} (hA : cA A) {o t n : Nat} (ho : o < 32) (h : campSh o = some (.inr (t, n))) : aLen (A + o) t = some n := by
  unfold aLen
  rw [shape_c hA o ho, h]
  exact if_pos rfl
theorem ldA_c {s : Mem} (h : RO s) {A : Nat} (hA : cA A) {j o t n : Nat} (h2 : rfx (A + 0) j = some (A + o)) (ho : o < 32) (h3 : campSh o = some (.inr (t, n))) : ldA s A j t = some (A + o, n) := ldA_of h h2 (aLen_c hA ho h3)
theorem ld_c0 {s : Mem} (h : RO s) {A : Nat} (hA : cA A) : ldA s A 0 4 = some (A + 1, 6) := ldA_c h hA (by rw [rfx_c hA 0 0 (by decide)]; rfl) (by decide) rfl
theorem ld_c2 {s : Mem} (h : RO s) {A : Nat} (hA : cA A) : ldA s A 2 5 = some (A + 8, 12) := ldA_c h hA (by rw [rfx_c hA 0 2 (by decide)]; rfl) (by decide) rfl
theorem ld_c4 {s : Mem} (h : RO s) {A : Nat} (hA : cA A) : ldA s A 4 6 = some (A + 21, 4) := ldA_c h hA (by rw [rfx_c hA 0 4 (by decide)]; rfl) (by decide) rfl
theorem ld_c6 {s : Mem} (h : RO s) {A : Nat} (hA : cA A) : ldA s A 6 0 = some (A + 26, 3) := ldA_c h hA (by rw [rfx_c hA 0 6 (by decide)]; rfl) (by decide) rfl
theorem ld_cp {s : Mem} (h : RO s) {A : Nat} (hA : cA A) {i : Nat} (hi : i < 6) : ldO s (A + 1) i 6 = some (A + 2 + i) :=
  ldO_of h (by rw [rfx_c hA 1 i (by decide)]; rw [if_neg (by decide), if_pos rfl, if_pos hi]) (by rw [Nat.add_assoc, shape_c hA _ (by omega)]; unfold campSh; rw [if_neg (by omega), if_neg (by omega), if_pos (by omega)])
theorem ld_cq {s : Mem} (h : RO s) {A : Nat} (hA : cA A) {i : Nat} (hi : i < 12) : ldO s (A + 8) i 5 = some (A + 9 + i) :=
  ldO_of h (by rw [rfx_c hA 8 i (by decide)]; rw [if_neg (by decide), if_neg (by decide), if_pos rfl, if_pos hi]) (by rw [Nat.add_assoc, shape_c hA _ (by omega)]; unfold campSh; rw [if_neg (by omega), if_neg (by omega), if_neg (by omega), if_neg (by omega), if_pos (by omega)])
theorem ld_cs {s : Mem} (h : RO s) {A : Nat} (hA : cA A) {i : Nat} (hi : i < 4) : ldO s (A + 21) i 8 = some (A + 22 + i) :=
  ldO_of h (by rw [rfx_c hA 21 i (by decide)]; rw [if_neg (by decide), if_neg (by decide), if_neg (by decide), if_pos rfl, if_pos hi]) (by rw [Nat.add_assoc, shape_c hA _ (by omega)]; unfold campSh; rw [if_neg (by omega), if_neg (by omega), if_neg (by omega), if_neg (by omega), if_neg (by omega), if_neg (by omega), if_pos (by omega)])
theorem ld_hk {s : Mem} (h : RO s) {i : Nat} (hi : i < 8) : ldO s 335 i 3 = some (64 + 32 * i) :=
  ldO_of h (by unfold rfx; simp [hi]) (by unfold shape; rw [if_pos (by omega), show (64 + 32 * i) % 32 = 0 by omega]; rfl)
theorem ldA_I (s : Mem) (a b : Nat) (v : Int32) (k j t : Nat) : ldA (pI s a b v) k j t = ldA s k j t := rfl
theorem ldA_L (s : Mem) (a b : Nat) (v : Int64) (k j t : Nat) : ldA (pL s a b v) k j t = ldA s k j t := rfl
theorem ldA_D (s : Mem) (a b : Nat) (v : UInt64) (k j t : Nat) : ldA (pD s a b v) k j t = ldA s k j t := rfl
theorem ldO_I (s : Mem) (a b : Nat) (v : Int32) (k j t : Nat) : ldO (pI s a b v) k j t = ldO s k j t := rfl
theorem ldO_L (s : Mem) (a b : Nat) (v : Int64) (k j t : Nat) : ldO (pL s a b v) k j t = ldO s k j t := rfl
theorem ldO_D (s : Mem) (a b : Nat) (v : UInt64) (k j t : Nat) : ldO (pD s a b v) k j t = ldO s k j t := rfl
def oB (p : Prop) [Decidable p] : Int32 := if p then 1 else 0
theorem oB_t {p : Prop} [Decidable p] (h : p) : oB p = oI 1 := if_pos h
theorem oB_f {p : Prop} [Decidable p] (h : ¬ p) : oB p = oI 0 := if_neg h
theorem oB_z (p : Prop) [Decidable p] : oB p = oI ((0 : Nat) : Int) ↔ ¬ p := by
  by_cases h : p
  · rw [oB_t h]; exact ⟨fun q => absurd q (by decide), fun q => absurd h q⟩
  · rw [oB_f h]; exact ⟨fun _ => h, fun _ => rfl⟩
theorem oB_o (p : Prop) [Decidable p] : oB p = oI ((1 : Nat) : Int) ↔ p := by
  by_cases h : p
  · rw [oB_t h]; exact ⟨fun _ => h, fun _ => rfl⟩
  · rw [oB_f h]; exact ⟨fun q => absurd q (by decide), fun q => absurd q h⟩
theorem gd_oB {α : Type} (p : Prop) [Decidable p] (o : Option α) : gd (oB p = oI ((0 : Nat) : Int) ∨ oB p = oI ((1 : Nat) : Int)) o = o :=
  gd_t (by rw [oB_z, oB_o]; exact (Decidable.em p).symm) o
theorem oB_cg {p q : Prop} [Decidable p] [Decidable q] (h : p ↔ q) : oB p = oB q := by
  by_cases hp : p
  · rw [oB_t hp, oB_t (h.mp hp)]
  · rw [oB_f hp, oB_f (fun x => hp (h.mpr x))]
theorem sB_cg {p q : Prop} [Decidable p] [Decidable q] (h : p ↔ q) : some (oB p) = some (oB q) := congrArg some (oB_cg h)
theorem nc1 (i : Nat) : (i : Int) + 1 = ((i + 1 : Nat) : Int) := rfl
theorem oI_litN (n : Nat) : (OfNat.ofNat n : Int) = ((OfNat.ofNat n : Nat) : Int) := rfl
