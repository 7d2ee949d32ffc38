theorem pI_pI (s : Mem) (k j : Nat) (a b : Int32) : pI (pI s k j a) k j b = pI s k j b := by
  unfold pI u2
  refine Prod.ext ?_ rfl
  funext x y
  dsimp only
  split <;> rfl
abbrev alP (s : Mem) (q : Nat) : Prop := mo s (iI s 342 q) q &&& mI (iI s 343 q) (iI s 344 q) = 0
abbrev ftP (s : Mem) (kd ln br pw : Int) (p : Nat) : Prop := kd ≤ iI s 341 (8 + 5 * p + 0) ∧ (ln ≤ iI s 341 (8 + 5 * p + 1) ∧ br ≤ iI s 341 (8 + 5 * p + 2) ∨ br ≤ iI s 341 (8 + 5 * p + 1) ∧ ln ≤ iI s 341 (8 + 5 * p + 2)) ∧ (pw = 0 ∨ 0 ≤ iI s 341 (8 + 5 * p + 3))
def obX (s : Mem) (kd ln br : Int) (p : Nat) : Int :=
  if ¬ ftP s kd ln br (iI s 345 12) p then 1 else if ¬ alP (pI s 342 12 (oI p)) 12 then 2 else if ¬ hpP (pI s 342 12 (oI p)) 12 then 3 else if ¬ slP (pI s 342 12 (oI p)) then 4 else if gA (pI s 342 12 (oI p)) ≤ gA s then 0 else 5
theorem gN_bd (v : Int64) (g : Int) : ∀ (m i : Nat) (st : Int × Int), st.1 ≤ (itr (gT v g) m i st).1 ∧ (itr (gT v g) m i st).1 ≤ st.1 + m := by
  intro m
  induction m with
  | zero => intro i st; exact ⟨Int.le_refl _, by show st.1 ≤ st.1 + ((0 : Nat) : Int); omega⟩
  | succ m ih =>
    intro i st
    have h := ih (i + 1) (gT v g st i)
    have e : st.1 ≤ (gT v g st i).1 ∧ (gT v g st i).1 ≤ st.1 + 1 := by
      unfold gT
      split
      · dsimp only; split <;> omega
      · omega
    show st.1 ≤ (itr (gT v g) m (i + 1) (gT v g st i)).1 ∧ (itr (gT v g) m (i + 1) (gT v g st i)).1 ≤ _
    omega
theorem gN_b (v : Int64) (g : Int) : 0 ≤ gN v g ∧ gN v g ≤ 60 := by
  have := gN_bd v g 60 0 (0, -1)
  unfold gN
  omega
theorem gA_bd (s : Mem) : ∀ (m i : Nat) (a : Int), a ≤ itr (gaS s) m i a ∧ itr (gaS s) m i a ≤ a + 60 * m := by
  intro m
  induction m with
  | zero => intro i a; exact ⟨Int.le_refl _, by show a ≤ a + 60 * ((0 : Nat) : Int); omega⟩
  | succ m ih =>
    intro i a
    have h := ih (i + 1) (gaS s a i)
    have b := gN_b (mo s i (-1)) (iI s 341 4)
    have e : gaS s a i = a + gN (mo s i (-1)) (iI s 341 4) := rfl
    show a ≤ itr (gaS s) m (i + 1) (gaS s a i) ∧ itr (gaS s) m (i + 1) (gaS s a i) ≤ _
    omega
theorem gA_b {s : Mem} (h : iI s 341 0 ≤ 6) : 0 ≤ gA s ∧ gA s ≤ 360 := by
  have := gA_bd s (iI s 341 0).toNat 0 0
  unfold gA
  omega
theorem ite_so (c : Prop) [Decidable c] (a b : Int) (s : Mem) : (if c then some (oI a, s) else some (oI b, s)) = some (oI (if c then a else b), s) := by split <;> rfl
theorem X8_obstacleOf {fl : Nat} (hfl : 1000 ≤ fl) {s : Mem} (hs : RO s) (hv : vT s) (hsn : vS s) (hg0 : 0 ≤ iI s 341 4) (hg1 : iI s 341 4 ≤ 5) (hp0 : 0 ≤ iI s 341 0) (hp1 : iI s 341 0 ≤ 6) (hn : iI s 342 12 = -1) (hf2 : iI s 343 12 < 60) (hsm : iI s 343 12 + iI s 344 12 ≤ 60)
    {kd ln br : Int} {p : Nat} (hp : p < 6) (hc : iI s 341 (8 + 5 * p + 3) < 3) (h1 : -2147483648 ≤ kd) (h2 : kd < 2147483648) (h3 : -2147483648 ≤ ln) (h4 : ln < 2147483648) (h5 : -2147483648 ≤ br) (h6 : br < 2147483648) :
    F_X8_obstacleOf fl 340 (oI kd) (oI ln) (oI br) (oI p) s = some (oI (obX s kd ln br p), s) := by
  have b := hv 12 (by omega)
  have g1 := gA_b hp1
  have g2 := gA_b (s := pI s 342 12 (oI p)) hp1
  have hs1 : RO (pI s 342 12 (oI p)) := hs
  have e12 : iI (pI s 342 12 (oI p)) 342 12 = p := iI_pe (by omega) (by omega)
  have hv1 : vT (pI s 342 12 (oI p)) := by
    intro q hq
    have bq := hv q hq
    by_cases h : q = 12
    · subst h
      rw [e12]
      exact ⟨by omega, by omega, bq.2.2⟩
    · rw [iI_pn (Or.inr h)]
      exact bq
  have hb : pI (pI s 342 12 (oI p)) 342 12 (oI (-((1 : Nat) : Int))) = s := by
    rw [pI_pI, show (-((1 : Nat) : Int)) = iI s 342 12 by omega]
    exact pI_iI s 342 12
  have al := X8_isAlone (fl := fl) hfl hs1 (q := 12) (by omega)
  have hw := X8_hasPower (fl := fl) hfl hs1 hv1 (q := 12) (by omega) (by omega) (by rw [e12, Int.toNat_natCast]; exact hc) hsm
  have sl := X8_staysLong (fl := fl) hfl hs1 hsn b.2.2.1 hf2 b.2.2.2.2.1 b.2.2.2.2.2.1
  have ga := X8_gapsOfAll (fl := fl) hfl hs1 hg0 hg1 hp0 hp1
  unfold F_X8_obstacleOf B_X8_obstacleOf_87
  simp (disch := omega) only [bd_some, nx_eq, xb_r, xb_l, xc_r, xc_l, oI_lit, oI_nI, oI_add, oI_sub, oI_mul, oI_neg, gI_oI, ldA_I, ldA_L, ldO_I, ldO_L, oB_z, oB_o, gd_oB, lgc0n, oI_litN, ← Int.natCast_add, ← Int.natCast_mul, Int.toNat_natCast, if_true, if_false, oI_le, oI_lt, oI_eq, oI_nat, oI_inR, gd_t, ld_340_7 hs, ld_340_4 hs, X8_fits hs, X8_gapsOfAll hfl hs, al, hw, sl, ga, hb]
  rw [ite_so, ite_so, ite_so, ite_so, ite_so]
  rfl
