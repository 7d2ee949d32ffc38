theorem book_core {fl : Nat} (hfl : 1000 ≤ fl) {s : Mem} (hI : InvB s) {kd ln br pw f n : Int} (a1 : -2147483648 ≤ kd) (a2 : kd < 2147483648) (b1 : -2147483648 ≤ ln) (b2 : ln < 2147483648) (c1 : -2147483648 ≤ br) (c2 : br < 2147483648) (d1 : -2147483648 ≤ pw) (d2 : pw < 2147483648) (e1 : -2147483648 ≤ f) (e2 : f < 2147483648) (f1 : -2147483648 ≤ n) (f2 : n < 2147483648) :
    ∃ out s1, F_X7_book fl 320 (oI kd) (oI ln) (oI br) (oI pw) (oI f) (oI n) s = some (out, s1) ∧ (out = .inl 1 ∨ out = .inl 2 ∨ out = .inl 5 ∨ ∃ w, out = .inr w) ∧ FG s s1 bkC ∧ ∀ u, FG s1 u ctC → ∃ v s2, F_X8_book fl 340 (oI kd) (oI ln) (oI br) (oI pw) (oI f) (oI n) u = some (v, s2) ∧ FG u s2 rbC ∧ iI s2 340 0 = bcode out ∧ (∀ w, out = .inr w → v = w) ∧ InvB s2 := by
  have hI' := hI
  obtain ⟨hs, hcs, ⟨hv, hc⟩, -⟩ := hI'
  have bn := VRn hv
  unfold VN at bn
  have g7 := X7_bookG (fl := fl) hs hc (by omega) (by omega) (by omega) (by omega) a1 a2 b1 b2 c1 c2 d1 d2 e1 e2 f1 f2
  have g8 : ∀ u, FG s u ctC → RO u ∧ (∀ k, iI u 341 k = iI s 341 k) ∧ ((VA u kd ln br pw f n → F_X8_book fl 340 (oI kd) (oI ln) (oI br) (oI pw) (oI f) (oI n) u = B_X8_book_88 fl 340 (oI kd) (oI ln) (oI br) (oI pw) (oI f) (oI n) 1 u) ∧ (¬ VA u kd ln br pw f n → F_X8_book fl 340 (oI kd) (oI ln) (oI br) (oI pw) (oI f) (oI n) u = some (0, pI u 340 0 (oI (1 : Nat))))) := fun u Fu => by
    have u41 : ∀ k, iI u 341 k = iI s 341 k := fun k => FG_I Fu (by unfold ctC scC; omega)
    exact ⟨FG_RO Fu hs, u41, X8_bookG (fl := fl) (FG_RO Fu hs) (by rw [u41]; omega) (by rw [u41]; omega) a1 a2 b1 b2 c1 c2 d1 d2 e1 e2 f1 f2⟩
  have th : ∀ (u : Mem) (c : Nat), FG u (pI u 340 0 (oI c)) rbC ∧ FG u (pI u 340 0 (oI c)) ctC := fun u c => ⟨FG_p _ _ _ _ (Or.inl ⟨rfl, by omega⟩), FG_p _ _ _ _ (Or.inl (Or.inl ⟨rfl, Or.inl rfl⟩))⟩
  by_cases hV : VA s kd ln br pw f n
  · by_cases hq : iI s 341 1 = 12
    · refine ⟨.inl 2, s, g7.1 hV hq, Or.inr (Or.inl rfl), FG_refl _ _, fun u Fu => ?_⟩
      obtain ⟨hu, u41, h1, h2⟩ := g8 u Fu
      refine ⟨0, _, (h1 (by unfold VA; rw [u41]; exact hV)).trans (X8_88F hu (by rw [u41]; exact hq)), (th u 2).1, iI_pe (by omega) (by omega), (fun w z => by cases z), InvB_ct (th u 2).2 (InvB_ct Fu hI)⟩
    · obtain ⟨S1, S2, M0, r, hS⟩ := book_set hfl hI hV
      have hr : r = 0 ∨ r = 1 := by
        rcases hS.2.2.2.2.2.2.2.2.1 with ⟨z, -⟩ | ⟨z, -⟩
        · exact Or.inr z
        · exact Or.inl z
      rcases hr with rfl | rfl
      · obtain ⟨s1, x1, x2, x3⟩ := book_no hfl hI hV (by omega) hS
        refine ⟨.inl 5, s1, x1, Or.inr (Or.inr (Or.inl rfl)), x2, fun u Fu => ?_⟩
        obtain ⟨s2, y1, y2, y3, y4⟩ := x3 u Fu
        exact ⟨0, s2, y1, y2, y3, (fun w z => by cases z), y4⟩
      · obtain ⟨x, hx⟩ : ∃ x : Nat, iI s 341 1 = x := ⟨(iI s 341 1).toNat, by omega⟩
        obtain ⟨s1, w, x1, x2, x3⟩ := book_yes hfl hI hV hx (by omega) hS
        refine ⟨.inr w, s1, x1, Or.inr (Or.inr (Or.inr ⟨w, rfl⟩)), x2, fun u Fu => ?_⟩
        obtain ⟨s2, y1, y2, y3, y4⟩ := x3 u Fu
        exact ⟨w, s2, y1, y2, y3, (fun w' z => by injection z), y4⟩
  · refine ⟨.inl 1, s, g7.2.1 hV, Or.inl rfl, FG_refl _ _, fun u Fu => ?_⟩
    obtain ⟨hu, u41, h1, h2⟩ := g8 u Fu
    exact ⟨0, _, h2 (by unfold VA; rw [u41]; exact hV), (th u 1).1, iI_pe (by omega) (by omega), (fun w z => by cases z), InvB_ct (th u 1).2 (InvB_ct Fu hI)⟩
theorem Txt_bk {s s1 u s2 : Mem} (ht : Txt s) (F1 : FG s s1 bkC) (F2 : FG s1 u scC) (F3 : FG u s2 rbC) : Txt s2 := Txt_FG F3 (by unfold rbC; omega) (Txt_FG F2 (by unfold scC; omega) (Txt_FG F1 (by unfold bkC; omega) ht))
theorem LM_book {fl : Nat} (hfl : 1000 ≤ fl) {s : Mem} (hI : Inv s) {kd ln br pw f n : Int} (a1 : -2147483648 ≤ kd) (a2 : kd < 2147483648) (b1 : -2147483648 ≤ ln) (b2 : ln < 2147483648) (c1 : -2147483648 ≤ br) (c2 : br < 2147483648) (d1 : -2147483648 ≤ pw) (d2 : pw < 2147483648) (e1 : -2147483648 ≤ f) (e2 : f < 2147483648) (f1 : -2147483648 ≤ n) (f2 : n < 2147483648) :
    Ans (F_L_book fl 320 (oI kd) (oI ln) (oI br) (oI pw) (oI f) (oI n) 350) (F_X8_book fl 340 (oI kd) (oI ln) (oI br) (oI pw) (oI f) (oI n)) s := by
  have ht := hI.2.2.2.2.2.2.2
  obtain ⟨out, s1, x1, x2, x3, x4⟩ := book_core hfl (InvB_of hI) a1 a2 b1 b2 c1 c2 d1 d2 e1 e2 f1 f2
  have no : ∀ (c : Nat), 1 ≤ c → c < 9 → F_L_book fl 320 (oI kd) (oI ln) (oI br) (oI pw) (oI f) (oI n) 350 s = some (oI (c : Nat), s1) → bcode out = c → Ans (F_L_book fl 320 (oI kd) (oI ln) (oI br) (oI pw) (oI f) (oI n) 350) (F_X8_book fl 340 (oI kd) (oI ln) (oI br) (oI pw) (oI f) (oI n)) s := fun c h1 h2 hL hb => by
    obtain ⟨v, s2, y1, y2, y3, y4, y5⟩ := x4 s1 (FG_refl _ _)
    refine ⟨oI (c : Nat), s1, v, s2, hL, y1, by rw [gI_oI, y3, hb], fun z => ?_, Inv_of y5 (Txt_bk ht x3 (FG_refl _ _) y2)⟩
    exfalso
    rw [oI_lit, oI_eq (by omega) (by omega) (by decide) (by decide)] at z
    have h' : (c : Int) = 0 := z
    omega
  rcases x2 with rfl | rfl | rfl | ⟨w, rfl⟩
  · exact no 1 (by omega) (by omega) (L_book_1 x1) rfl
  · exact no 2 (by omega) (by omega) (L_book_2 x1) rfl
  · exact no 3 (by omega) (by omega) (L_book_3 x1) rfl
  · have Fp : FG s1 (pL s1 350 0 (Int32.toInt64 w)) scC := FG_pL _ _ _ _ (by unfold scC; omega)
    obtain ⟨v, s2, y1, y2, y3, y4, y5⟩ := x4 _ (FG_mono Fp (fun k j z => Or.inl z))
    have hvw := y4 w rfl
    subst hvw
    refine ⟨oI (0 : Nat), _, v, s2, L_book_v x1, y1, by rw [gI_oI, y3]; rfl, fun _ => ?_, Inv_of y5 (Txt_bk ht x3 Fp y2)⟩
    rw [FG_L y2 (by unfold rbC; omega), gL_p, if_pos ⟨rfl, rfl⟩]
