def STRL : List (String × Nat × String) := [("CampsiteBooker", 62, "a number of the pitch is out of range"), ("CampsiteBooker", 72, "all pitches are made"), ("CampsiteBooker", 384, "there is no such pitch"), ("CampsiteBooker", 121, "there is no such number of a pitch"), ("CampsiteBooker", 394, "there is no such circuit"), ("CampsiteBooker", 126, "the limit is out of range"), ("CampsiteBooker", 131, "the rate is out of range"), ("CampsiteBooker", 133, "the gap limit is out of range"), ("CampsiteBooker", 142, "a number of the season is out of range"), ("CampsiteBooker", 147, "all seasons are kept"), ("CampsiteBooker", 389, "there is no such season"), ("CampsiteBooker", 174, "there is no such number of a season"), ("CampsiteBooker", 180, "a number of the stay is out of range"), ("CampsiteBooker", 189, "a number of the party is out of range"), ("CampsiteBooker", 194, "all parties are booked"), ("CampsiteBooker", 216, "no plan is right"), ("CampsiteBooker", 231, "the buffer is full"), ("CampsiteBooker", 236, "the text has a fault"), ("CampsiteBooker", 251, "no booking was refused"), ("CampsiteBooker", 387, "there is no such party"), ("CampsiteBooker", 283, "there is no such number of a party"), ("CampsiteBooker", 285, "there is no such move"), ("CampsiteBooker", 287, "there is no such part of a move"), ("CampsiteBooker", 293, "the party can't be moved there"), ("CampsiteBooker", 299, "the party has an obstacle there"), ("CampsiteBooker", 301, "the party can't be cancelled"), ("CampsiteBooker", 307, "so many nights can't go by"), ("CampsiteBooker", 322, "there is no such night"), ("CampsiteBooker", 324, "a number is out of range"), ("CampsiteBooker", 333, "no power is used"), ("CampsiteBooker", 339, "there is no such gap"), ("CampsiteBooker", 359, "there is no such account"), ("CampsiteBooker", 363, "there are no pitches"), ("CampsiteBooker", 369, "no change is kept"), ("CampsiteBooker", 377, "there is no snapshot")]
def NCL : List (String × String) := [("java/lang/IllegalStateException", "java/lang/IllegalArgumentException"), ("java/lang/IndexOutOfBoundsException", "java/lang/IllegalArgumentException"), ("java/lang/UnsupportedOperationException", "java/lang/IllegalArgumentException"), ("java/util/NoSuchElementException", "java/lang/IllegalArgumentException"), ("java/lang/ArithmeticException", "java/lang/IllegalArgumentException"), ("java/lang/IllegalArgumentException", "java/lang/IllegalStateException"), ("java/lang/IndexOutOfBoundsException", "java/lang/IllegalStateException"), ("java/lang/UnsupportedOperationException", "java/lang/IllegalStateException"), ("java/util/NoSuchElementException", "java/lang/IllegalStateException"), ("java/lang/ArithmeticException", "java/lang/IllegalStateException"), ("java/lang/IllegalArgumentException", "java/lang/IndexOutOfBoundsException"), ("java/lang/IllegalStateException", "java/lang/IndexOutOfBoundsException"), ("java/lang/UnsupportedOperationException", "java/lang/IndexOutOfBoundsException"), ("java/util/NoSuchElementException", "java/lang/IndexOutOfBoundsException"), ("java/lang/ArithmeticException", "java/lang/IndexOutOfBoundsException"), ("java/lang/IllegalArgumentException", "java/lang/UnsupportedOperationException"), ("java/lang/IllegalStateException", "java/lang/UnsupportedOperationException"), ("java/lang/IndexOutOfBoundsException", "java/lang/UnsupportedOperationException"), ("java/util/NoSuchElementException", "java/lang/UnsupportedOperationException"), ("java/lang/ArithmeticException", "java/lang/UnsupportedOperationException"), ("java/lang/IllegalArgumentException", "java/util/NoSuchElementException"), ("java/lang/IllegalStateException", "java/util/NoSuchElementException"), ("java/lang/IndexOutOfBoundsException", "java/util/NoSuchElementException"), ("java/lang/UnsupportedOperationException", "java/util/NoSuchElementException"), ("java/lang/ArithmeticException", "java/util/NoSuchElementException"), ("java/lang/IllegalArgumentException", "java/lang/ArithmeticException"), ("java/lang/IllegalStateException", "java/lang/ArithmeticException"), ("java/lang/IndexOutOfBoundsException", "java/lang/ArithmeticException"), ("java/lang/UnsupportedOperationException", "java/lang/ArithmeticException"), ("java/util/NoSuchElementException", "java/lang/ArithmeticException")]
-- method facts: name, code, locals, return, room, kind (0 returns, 1 returns or throws, 2 the law), handlers, script
abbrev MX : Type := MethodName × ByteArray × Nat × Option FieldType × Room × Nat × List (Nat × Nat × Nat × Nat) × Option (Nat × (Nat → Int32))
abbrev xY (X : MX) : MethodName := X.1
abbrev xC (X : MX) : ByteArray := X.2.1
abbrev xL (X : MX) : Nat := X.2.2.1
abbrev xT (X : MX) : Option FieldType := X.2.2.2.1
abbrev xR (X : MX) : Room := X.2.2.2.2.1
abbrev xK (X : MX) : Nat := X.2.2.2.2.2.1
abbrev xH (X : MX) : List (Nat × Nat × Nat × Nat) := X.2.2.2.2.2.2.1
abbrev xS (X : MX) : Option (Nat × (Nat → Int32)) := X.2.2.2.2.2.2.2
/-- the result of a run: thrown or returned; cells made so far; the memory -/
abbrev Rs : Type := (Nat ⊕ Option Value) × Nat × Mem
def rmD (d mc ms : Nat) : Room := { frames := 8 + d, cells := mc, slots := ms, locals := 200 + 60 * d }
def tysA (aC : Nat → ClassId) : List (ClassId × FieldType) := [(aC 0, .int), (aC 1, .long), (aC 2, .char), (aC 3, .double), (aC 4, .object RX4), (aC 5, .object RX3), (aC 6, .object RX6), (aC 7, .object RX1)]
def exN (x : Nat) : String := match x with
  | 1 => "java/lang/IllegalArgumentException"
  | 2 => "java/lang/IllegalStateException"
  | 3 => "java/lang/IndexOutOfBoundsException"
  | 4 => "java/lang/ArithmeticException"
  | 5 => "java/lang/UnsupportedOperationException"
  | _ => "java/util/NoSuchElementException"
def exUp : List String := ["java/lang/RuntimeException", "java/lang/Exception"]
abbrev fr (base : Nat) : Nat → Prop := fun q => base ≤ q
def AOL : List String := [RX4, RX3, RX6, RX1]
def EV (base : Nat) (D : va_G) (aC : Nat → ClassId) (U : State) (H : Heap) : Prop :=
  va_K D vwCl (tysA aC) U ∧ (∀ w ∈ NWL, va_Nw w U) ∧ (∀ q ∈ STRL, ∃ a, vk_R q.1 q.2.1 q.2.2 a U) ∧ vx_Zq Bundle.tN "UNASSIGNED_STACK" Bundle.steD (fr base) U H ∧ vx_Zq Bundle.tN "SUPPRESSED_SENTINEL" Bundle.listD (fr base) U H ∧ (∀ q ∈ NCL, va_Nc q.1 q.2 U) ∧ (∀ C ∈ AOL, va_AO C U)
theorem EV.warm {base : Nat} {D : va_G} {aC : Nat → ClassId} {s U : State} {H H1 : Heap} (hW : s.WarmedH U.vm) (h : EV base D aC s H) (hq : ∀ q : Nat, q < H.size → ¬ fr base q → H1[q]? = H[q]?) : EV base D aC U H1 := by
  obtain ⟨h1, h2, h3, h4, h5, h6, h7⟩ := h
  exact ⟨va_K.moved hW.alike h1, fun w hw => nw_keep (List.mem_filter.mp hw).2 hW (h2 w hw), fun q hm => by obtain ⟨a, ha⟩ := h3 q hm; exact ⟨a, vk_R.warm hW ha⟩, vx_Zq.moved hW.alike (h4.kept hq), vx_Zq.moved hW.alike (h5.kept hq), fun q hm => va_Nc.moved hW.alike (h6 q hm), fun C hm => va_AO.moved hW.alike (h7 C hm)⟩
theorem EV.same {base : Nat} {D : va_G} {aC : Nat → ClassId} {u U : State} {H : Heap} (hv : U.vm = u.vm) (h : EV base D aC u H) : EV base D aC U H := by
  obtain ⟨h1, h2, h3, h4, h5, h6, h7⟩ := h
  have ha : u.vm.Alike U.vm := by rw [hv]; exact Vm.Alike.refl _
  exact ⟨va_K.moved ha h1, fun w hw => va_Nw.same (nw_tab (List.mem_filter.mp hw).2) hv.symm (h2 w hw), fun q hm => by obtain ⟨a, hx⟩ := h3 q hm; exact ⟨a, vk_R.same hv hx⟩, vx_Zq.moved ha h4, vx_Zq.moved ha h5, fun q hm => va_Nc.moved ha (h6 q hm), fun C hm => va_AO.moved ha (h7 C hm)⟩
def SC (sc : Option (Nat × (Nat → Int32))) (b base : Nat) (s : State) : Prop := match sc with
  | none => True
  | some q => va_X b q.1 q.2 s s.heap ∧ b < base ∧ base = s.heap.size
def FX (l : Launch) (X : MX) (p : Program) (s : State) (m : MethodId) (args : Array Value) (meth : Method) (c : Code) (base b : Nat) (D : va_G) (aC : Nat → ClassId) : Prop :=
  p.tables.exec = Jvm.exec ∧ c.code = xC X ∧ c.maxLocals = xL X ∧ meth.sig.returnType = xT X ∧ s.vm.findClass (xY X).cls = some m.cls ∧ (∀ w ∈ TBL, w.before args s = true) ∧ meth.locks = false ∧ base ≤ s.heap.size ∧ l.stackTraces = false ∧ c.exceptionTable.toList = tableOf (xH X) ∧ meth.name = (xY X).name ∧ EV base D aC s s.heap ∧ SC (xS X) b base s
def BU (base b : Nat) (D : va_G) (aC : Nat → ClassId) (fa : Bool) (n : Nat) (σ : Mem) (U : State) : Prop := base ≤ U.heap.size ∧ va_P D vwCl (Wd base b aC n σ) U.heap ∧ EV base D aC U U.heap ∧ (fa = true → U.heap.size = base + n)
theorem BU_blind {base b : Nat} {D : va_G} {aC : Nat → ClassId} {fa : Bool} {n : Nat} {σ : Mem} {av : List Value} : FrameBlind (va_Pc av (BU base b D aC fa n σ)) := fun a U g mk h => ⟨h.1, h.2.1, h.2.2.1, EV.same (u := U) (U := U.calling g mk a) rfl h.2.2.2.1, h.2.2.2.2⟩
def QE (base b : Nat) (D : va_G) (aC : Nat → ClassId) (fa : Bool) (r : Rs) : Array Value → State → Outcome → State → Prop := fun _ st oc t => ∃ v : Option Value, r.1 = .inr v ∧ oc = .returned (v.map (cv base b)) ∧ va_P D vwCl (Wd base b aC r.2.1 r.2.2) t.heap ∧ (fa = true → t.heap.size = base + r.2.1) ∧ va_F (fr base) st t
def XE (base b : Nat) (D : va_G) (aC : Nat → ClassId) (r : Rs) : String → State → State → Prop := fun E st t => ∃ x : Nat, r.1 = .inl x ∧ E = exN x ∧ va_P D vwCl (Wd base b aC r.2.1 r.2.2) t.heap ∧ va_F (fr base) st t
def xW (X : MX) : List Cond := (if xH X = [] then Cond.code (xY X) (xC X) (xL X) (xT X) else Cond.codeWith (xY X) (xC X) (xL X) (xT X) (xH X)) :: TBL
def MetN (l : Launch) (X : MX) (fa : Bool) (n : Nat) (σ : Mem) (args : List Value) (r : Rs) : Prop := ∀ (base b : Nat) (D : va_G) (aC : Nat → ClassId), Met l (xY X) (xW X) (xR X) (va_Pc (cvS base b args) (BU base b D aC fa n σ)) (QE base b D aC fa r) (xR X).cells (xR X).slots (fr base)
def MetX (l : Launch) (X : MX) (n : Nat) (σ : Mem) (args : List Value) (r : Rs) : Prop := ∀ (base b : Nat) (D : va_G) (aC : Nat → ClassId), vx_Met l (xY X) (xW X) (xR X) (va_Pc (cvS base b args) (BU base b D aC false n σ)) (QE base b D aC false r) (XE base b D aC r) (xR X).cells (xR X).slots (fr base)
def QQ (X : MX) (r : Rs) (fa : Bool) (base b : Nat) (D : va_G) (aC : Nat → ClassId) (below : List Frame) (s : State) (args : Array Value) : State → Prop :=
  if xK X = 0 then MQ below (QE base b D aC fa r) args s (xR X).cells (xR X).slots (fr base)
  else if xK X = 1 then vx_MQ below (QE base b D aC false r) (XE base b D aC r) args s (xR X).cells (xR X).slots (fr base)
  else lw_Z below args s
/-- from pc on, over the memory σ of n cells, with locals L and stack S, the body of X comes to the result r; kc cells of ks slots may be made -/
def E (l : Launch) (X : MX) (r : Rs) (fa : Bool) (n : Nat) (σ : Mem) (kc ks pc : Nat) (L : List (Nat × Value)) (S : List Value) : Prop :=
  ∀ (p : Program) (e : Env) (s : State) (m : MethodId) (args : Array Value) (below : List Frame) (meth : Method) (c : Code) (base b : Nat) (D : va_G) (aC : Nat → ClassId) (H : Heap) (locs : List Loc) (cells slots : Nat) (ls : Array Slot),
    FX l X p s m args meth c base b D aC → va_P D vwCl (Wd base b aC n σ) H → va_S (fr base) s.heap H locs → (fa = true → H.size = base + n) → lv_has ls (xL X) (cvL base b L) → cells + kc ≤ (xR X).cells → slots + ks ≤ (xR X).slots →
    W p l e (xR X) s m args below meth c H locs cells slots (QQ X r fa base b D aC below s args) (F0 m pc ls (cvS base b S))
theorem cvL_at {base b : Nat} {L : List (Nat × Value)} {q i : Nat} {v : Value} (h : L[q]? = some (i, v)) : (cvL base b L)[q]? = some (i, cv base b v) := by
  unfold cvL
  rw [List.getElem?_map, h]
  rfl
theorem cv_cat {base b : Nat} (v : Value) : (cv base b v).category = v.category := by cases v <;> rfl
theorem cvS_sum {base b : Nat} (S : List Value) : ((cvS base b S).map fun v => v.category).sum = (S.map fun v => v.category).sum := by
  induction S with
  | nil => rfl
  | cons v t ih =>
    show (cv base b v).category + ((cvS base b t).map fun v => v.category).sum = v.category + (t.map fun v => v.category).sum
    rw [cv_cat, ih]
def st1 (i : Nat) (L : List (Nat × Value)) : List (Nat × Value) := L.filter (fun q => !(q.1 == i) && !(q.1 + 1 == i && q.2.category == 2))
def st2 (i : Nat) (L : List (Nat × Value)) : List (Nat × Value) := L.filter (fun q => !(q.1 == i) && (!(q.1 == i + 1) && !(q.1 + 1 == i && q.2.category == 2)))
theorem cvL_filter {base b : Nat} {f : Nat × Value → Bool} (hf : ∀ i v, f (i, cv base b v) = f (i, v)) (L : List (Nat × Value)) : (cvL base b L).filter f = cvL base b (L.filter f) := by
  induction L with
  | nil => rfl
  | cons q t ih =>
    obtain ⟨i, v⟩ := q
    show List.filter f ((i, cv base b v) :: cvL base b t) = cvL base b (List.filter f ((i, v) :: t))
    rw [List.filter_cons, List.filter_cons, hf, ih]
    cases f (i, v) <;> rfl
theorem cvL_st1 {base b i : Nat} {v : Value} {L L' : List (Nat × Value)} (h : (i, v) :: st1 i L = L') : (i, cv base b v) :: (cvL base b L).filter (fun q => !(q.1 == i) && !(q.1 + 1 == i && q.2.category == 2)) = cvL base b L' := by
  subst h
  rw [cvL_filter (fun i v => by simp only [cv_cat])]
  rfl
theorem cvL_st2 {base b i : Nat} {v : Value} {L L' : List (Nat × Value)} (h : (i, v) :: st2 i L = L') : (i, cv base b v) :: (cvL base b L).filter (fun q => !(q.1 == i) && (!(q.1 == i + 1) && !(q.1 + 1 == i && q.2.category == 2))) = cvL base b L' := by
  subst h
  rw [cvL_filter (fun i v => by simp only [cv_cat])]
  rfl
theorem lv_args_cv {base b : Nat} (vs : List Value) : ∀ i, lv_args i (cvS base b vs) = cvL base b (lv_args i vs) := by
  induction vs with
  | nil => intro i; rfl
  | cons v t ih =>
    intro i
    show (i, cv base b v) :: lv_args (if (cv base b v).category = 2 then i + 2 else i + 1) (cvS base b t) = (i, cv base b v) :: cvL base b (lv_args (if v.category = 2 then i + 2 else i + 1) t)
    rw [cv_cat, ih]
theorem lg_sl_cv {base b : Nat} (vs : List Value) : (lg_sl (cvS base b vs)).length = (lg_sl vs).length := by
  induction vs with
  | nil => rfl
  | cons v t ih =>
    have h1 : lg_sl (cvS base b (v :: t)) = (if (cv base b v).category = 2 then [Slot.val (cv base b v), .second] else [.val (cv base b v)]) ++ lg_sl (cvS base b t) := rfl
    have h2 : lg_sl (v :: t) = (if v.category = 2 then [Slot.val v, .second] else [.val v]) ++ lg_sl t := rfl
    rw [h1, h2, List.length_append, List.length_append, ih, cv_cat]
    by_cases q : v.category = 2 <;> simp [q]
section ER
variable {l : Launch} {X : MX} {r : Rs} {fa : Bool} {n : Nat} {σ : Mem} {kc ks pc : Nat} {L : List (Nat × Value)} {S : List Value}
theorem E_weak {kc' ks' : Nat} (h1 : kc' ≤ kc) (h2 : ks' ≤ ks) (k : E l X r fa n σ kc' ks' pc L S) : E l X r fa n σ kc ks pc L S :=
  fun p e s m args below meth c base b D aC H locs cells slots ls hF hP hS hz hl hc hs => k p e s m args below meth c base b D aC H locs cells slots ls hF hP hS hz hl (by omega) (by omega)
theorem E_iadd {x y : Int32} (hd : decode (xC X) pc = .ok (.iadd, 1)) (k : E l X r fa n σ kc ks (pc + 1) L (.int (x + y) :: S)) : E l X r fa n σ kc ks pc L (.int y :: .int x :: S) := by
  intro p e s m args below meth c base b D aC H locs cells slots ls hF hP hS hz hl hc hs
  exact lv_iadd hF.1 hF.2.1 hd (k p e s m args below meth c base b D aC H locs cells slots ls hF hP hS hz hl hc hs)
theorem E_isub {x y : Int32} (hd : decode (xC X) pc = .ok (.isub, 1)) (k : E l X r fa n σ kc ks (pc + 1) L (.int (x - y) :: S)) : E l X r fa n σ kc ks pc L (.int y :: .int x :: S) := by
  intro p e s m args below meth c base b D aC H locs cells slots ls hF hP hS hz hl hc hs
  exact lv_isub hF.1 hF.2.1 hd (k p e s m args below meth c base b D aC H locs cells slots ls hF hP hS hz hl hc hs)
theorem E_imul {x y : Int32} (hd : decode (xC X) pc = .ok (.imul, 1)) (k : E l X r fa n σ kc ks (pc + 1) L (.int (x * y) :: S)) : E l X r fa n σ kc ks pc L (.int y :: .int x :: S) := by
  intro p e s m args below meth c base b D aC H locs cells slots ls hF hP hS hz hl hc hs
  exact lv_imul hF.1 hF.2.1 hd (k p e s m args below meth c base b D aC H locs cells slots ls hF hP hS hz hl hc hs)
theorem E_iand {x y : Int32} (hd : decode (xC X) pc = .ok (.iand, 1)) (k : E l X r fa n σ kc ks (pc + 1) L (.int (x &&& y) :: S)) : E l X r fa n σ kc ks pc L (.int y :: .int x :: S) := by
  intro p e s m args below meth c base b D aC H locs cells slots ls hF hP hS hz hl hc hs
  exact lv_iand hF.1 hF.2.1 hd (k p e s m args below meth c base b D aC H locs cells slots ls hF hP hS hz hl hc hs)
theorem E_ladd {x y : Int64} (hd : decode (xC X) pc = .ok (.ladd, 1)) (k : E l X r fa n σ kc ks (pc + 1) L (.long (x + y) :: S)) : E l X r fa n σ kc ks pc L (.long y :: .long x :: S) := by
  intro p e s m args below meth c base b D aC H locs cells slots ls hF hP hS hz hl hc hs
  exact lv_ladd hF.1 hF.2.1 hd (k p e s m args below meth c base b D aC H locs cells slots ls hF hP hS hz hl hc hs)
theorem E_lsub {x y : Int64} (hd : decode (xC X) pc = .ok (.lsub, 1)) (k : E l X r fa n σ kc ks (pc + 1) L (.long (x - y) :: S)) : E l X r fa n σ kc ks pc L (.long y :: .long x :: S) := by
  intro p e s m args below meth c base b D aC H locs cells slots ls hF hP hS hz hl hc hs
  exact lv_lsub hF.1 hF.2.1 hd (k p e s m args below meth c base b D aC H locs cells slots ls hF hP hS hz hl hc hs)
theorem E_land {x y : Int64} (hd : decode (xC X) pc = .ok (.land, 1)) (k : E l X r fa n σ kc ks (pc + 1) L (.long (x &&& y) :: S)) : E l X r fa n σ kc ks pc L (.long y :: .long x :: S) := by
  intro p e s m args below meth c base b D aC H locs cells slots ls hF hP hS hz hl hc hs
  exact lv_land hF.1 hF.2.1 hd (k p e s m args below meth c base b D aC H locs cells slots ls hF hP hS hz hl hc hs)
theorem E_lor {x y : Int64} (hd : decode (xC X) pc = .ok (.lor, 1)) (k : E l X r fa n σ kc ks (pc + 1) L (.long (x ||| y) :: S)) : E l X r fa n σ kc ks pc L (.long y :: .long x :: S) := by
  intro p e s m args below meth c base b D aC H locs cells slots ls hF hP hS hz hl hc hs
  exact lv_lor hF.1 hF.2.1 hd (k p e s m args below meth c base b D aC H locs cells slots ls hF hP hS hz hl hc hs)
theorem E_lxor {x y : Int64} (hd : decode (xC X) pc = .ok (.lxor, 1)) (k : E l X r fa n σ kc ks (pc + 1) L (.long (x ^^^ y) :: S)) : E l X r fa n σ kc ks pc L (.long y :: .long x :: S) := by
  intro p e s m args below meth c base b D aC H locs cells slots ls hF hP hS hz hl hc hs
  exact lv_lxor hF.1 hF.2.1 hd (k p e s m args below meth c base b D aC H locs cells slots ls hF hP hS hz hl hc hs)
theorem E_idiv {x y : Int32} (hne : ¬ y = 0) (hd : decode (xC X) pc = .ok (.idiv, 1)) (k : E l X r fa n σ kc ks (pc + 1) L (.int (x / y) :: S)) : E l X r fa n σ kc ks pc L (.int y :: .int x :: S) := by
  intro p e s m args below meth c base b D aC H locs cells slots ls hF hP hS hz hl hc hs
  exact lv_idiv hF.1 hF.2.1 hd hne (k p e s m args below meth c base b D aC H locs cells slots ls hF hP hS hz hl hc hs)
theorem E_irem {x y : Int32} (hne : ¬ y = 0) (hd : decode (xC X) pc = .ok (.irem, 1)) (k : E l X r fa n σ kc ks (pc + 1) L (.int (x - x / y * y) :: S)) : E l X r fa n σ kc ks pc L (.int y :: .int x :: S) := by
  intro p e s m args below meth c base b D aC H locs cells slots ls hF hP hS hz hl hc hs
  exact lv_irem hF.1 hF.2.1 hd hne (k p e s m args below meth c base b D aC H locs cells slots ls hF hP hS hz hl hc hs)
theorem E_i2l {x : Int32} (hd : decode (xC X) pc = .ok (.i2l, 1)) (k : E l X r fa n σ kc ks (pc + 1) L (.long x.toInt64 :: S)) : E l X r fa n σ kc ks pc L (.int x :: S) := by
  intro p e s m args below meth c base b D aC H locs cells slots ls hF hP hS hz hl hc hs
  exact lv_i2l hF.1 hF.2.1 hd rfl (k p e s m args below meth c base b D aC H locs cells slots ls hF hP hS hz hl hc hs)
theorem E_l2i {x : Int64} (hd : decode (xC X) pc = .ok (.l2i, 1)) (k : E l X r fa n σ kc ks (pc + 1) L (.int x.toInt32 :: S)) : E l X r fa n σ kc ks pc L (.long x :: S) := by
  intro p e s m args below meth c base b D aC H locs cells slots ls hF hP hS hz hl hc hs
  exact lv_l2i hF.1 hF.2.1 hd rfl (k p e s m args below meth c base b D aC H locs cells slots ls hF hP hS hz hl hc hs)
theorem E_i2c {x : Int32} (hd : decode (xC X) pc = .ok (.i2c, 1)) (k : E l X r fa n σ kc ks (pc + 1) L (.int (x.toUInt32 % 65536).toInt32 :: S)) : E l X r fa n σ kc ks pc L (.int x :: S) := by
  intro p e s m args below meth c base b D aC H locs cells slots ls hF hP hS hz hl hc hs
  exact lv_i2c hF.1 hF.2.1 hd rfl (k p e s m args below meth c base b D aC H locs cells slots ls hF hP hS hz hl hc hs)
theorem E_i2d {x : Int32} (hd : decode (xC X) pc = .ok (.i2d, 1)) (k : E l X r fa n σ kc ks (pc + 1) L (.double (FP.i2d x) :: S)) : E l X r fa n σ kc ks pc L (.int x :: S) := by
  intro p e s m args below meth c base b D aC H locs cells slots ls hF hP hS hz hl hc hs
  exact lv_i2d hF.1 hF.2.1 hd (k p e s m args below meth c base b D aC H locs cells slots ls hF hP hS hz hl hc hs)
theorem E_lushr {x : Int64} {y : Int32} (hd : decode (xC X) pc = .ok (.lushr, 1)) (k : E l X r fa n σ kc ks (pc + 1) L (.long (x.toUInt64 >>> (y.toInt64.toUInt64 &&& Int64.toUInt64 63)).toInt64 :: S)) : E l X r fa n σ kc ks pc L (.int y :: .long x :: S) := by
  intro p e s m args below meth c base b D aC H locs cells slots ls hF hP hS hz hl hc hs
  exact lv_lushr hF.1 hF.2.1 hd rfl (k p e s m args below meth c base b D aC H locs cells slots ls hF hP hS hz hl hc hs)
theorem E_lshl {x : Int64} {y : Int32} (hd : decode (xC X) pc = .ok (.lshl, 1)) (k : E l X r fa n σ kc ks (pc + 1) L (.long (x <<< (y.toInt64 &&& 63)) :: S)) : E l X r fa n σ kc ks pc L (.int y :: .long x :: S) := by
  intro p e s m args below meth c base b D aC H locs cells slots ls hF hP hS hz hl hc hs
  exact lv_lshl hF.1 hF.2.1 hd rfl (k p e s m args below meth c base b D aC H locs cells slots ls hF hP hS hz hl hc hs)
theorem E_lshr {x : Int64} {y : Int32} (hd : decode (xC X) pc = .ok (.lshr, 1)) (k : E l X r fa n σ kc ks (pc + 1) L (.long (x >>> (y.toInt64 &&& 63)) :: S)) : E l X r fa n σ kc ks pc L (.int y :: .long x :: S) := by
  intro p e s m args below meth c base b D aC H locs cells slots ls hF hP hS hz hl hc hs
  exact lv_lshr hF.1 hF.2.1 hd rfl (k p e s m args below meth c base b D aC H locs cells slots ls hF hP hS hz hl hc hs)
theorem E_lcmp {x y : Int64} (hd : decode (xC X) pc = .ok (.lcmp, 1)) (k : E l X r fa n σ kc ks (pc + 1) L (.int (lg_cmp x y) :: S)) : E l X r fa n σ kc ks pc L (.long y :: .long x :: S) := by
  intro p e s m args below meth c base b D aC H locs cells slots ls hF hP hS hz hl hc hs
  exact W.lcmp hF.1 hF.2.1 hd (k p e s m args below meth c base b D aC H locs cells slots ls hF hP hS hz hl hc hs)
theorem E_dcmpl {x y : UInt64} (hd : decode (xC X) pc = .ok (.dcmp .l, 1)) (k : E l X r fa n σ kc ks (pc + 1) L (.int (Op.cmpValue (FP.dcmp x y) CmpOp.l) :: S)) : E l X r fa n σ kc ks pc L (.double y :: .double x :: S) := by
  intro p e s m args below meth c base b D aC H locs cells slots ls hF hP hS hz hl hc hs
  exact lv_dcmp hF.1 hF.2.1 hd (k p e s m args below meth c base b D aC H locs cells slots ls hF hP hS hz hl hc hs)
theorem E_ddiv {x y : UInt64} (hne : vf_n64 (FP.ddiv x y)) (hd : decode (xC X) pc = .ok (.ddiv, 1)) (k : E l X r fa n σ kc ks (pc + 1) L (.double (FP.ddiv x y) :: S)) : E l X r fa n σ kc ks pc L (.double y :: .double x :: S) := by
  intro p e s m args below meth c base b D aC H locs cells slots ls hF hP hS hz hl hc hs
  exact lv_ddiv hF.1 hF.2.1 hd hne (k p e s m args below meth c base b D aC H locs cells slots ls hF hP hS hz hl hc hs)
theorem E_iconst {i : Int} {v : Int32} (hv : Int32.ofInt i = v) (hd : decode (xC X) pc = .ok (.iconst i, 1)) (k : E l X r fa n σ kc ks (pc + 1) L (.int v :: S)) : E l X r fa n σ kc ks pc L (S) := by
  intro p e s m args below meth c base b D aC H locs cells slots ls hF hP hS hz hl hc hs
  exact lv_iconst hF.1 hF.2.1 hd hv (k p e s m args below meth c base b D aC H locs cells slots ls hF hP hS hz hl hc hs)
theorem E_bipush {i : Int} {v : Int32} (hv : (Int8.ofInt i).toInt32 = v) (hd : decode (xC X) pc = .ok (.bipush i, 2)) (k : E l X r fa n σ kc ks (pc + 2) L (.int v :: S)) : E l X r fa n σ kc ks pc L (S) := by
  intro p e s m args below meth c base b D aC H locs cells slots ls hF hP hS hz hl hc hs
  exact lv_bipush hF.1 hF.2.1 hd hv (k p e s m args below meth c base b D aC H locs cells slots ls hF hP hS hz hl hc hs)
theorem E_sipush {i : Int} {v : Int32} (hv : (Int16.ofInt i).toInt32 = v) (hd : decode (xC X) pc = .ok (.sipush i, 3)) (k : E l X r fa n σ kc ks (pc + 3) L (.int v :: S)) : E l X r fa n σ kc ks pc L (S) := by
  intro p e s m args below meth c base b D aC H locs cells slots ls hF hP hS hz hl hc hs
  exact lv_sipush hF.1 hF.2.1 hd hv (k p e s m args below meth c base b D aC H locs cells slots ls hF hP hS hz hl hc hs)
theorem E_lconst {i : Fin 2} {v : Int64} (hv : Int64.ofNat (i : Nat) = v) (hd : decode (xC X) pc = .ok (.lconst i, 1)) (k : E l X r fa n σ kc ks (pc + 1) L (.long v :: S)) : E l X r fa n σ kc ks pc L (S) := by
  intro p e s m args below meth c base b D aC H locs cells slots ls hF hP hS hz hl hc hs
  exact lv_lconst hF.1 hF.2.1 hd hv (k p e s m args below meth c base b D aC H locs cells slots ls hF hP hS hz hl hc hs)
theorem E_dconst0  (hd : decode (xC X) pc = .ok (.dconst 0, 1)) (k : E l X r fa n σ kc ks (pc + 1) L (.double FP.dconst0 :: S)) : E l X r fa n σ kc ks pc L (S) := by
  intro p e s m args below meth c base b D aC H locs cells slots ls hF hP hS hz hl hc hs
  exact lv_dconst0 hF.1 hF.2.1 hd (k p e s m args below meth c base b D aC H locs cells slots ls hF hP hS hz hl hc hs)
theorem E_dup {v : Value} (hv : v.category = 1) (hd : decode (xC X) pc = .ok (.dup, 1)) (k : E l X r fa n σ kc ks (pc + 1) L (v :: v :: S)) : E l X r fa n σ kc ks pc L (v :: S) := by
  intro p e s m args below meth c base b D aC H locs cells slots ls hF hP hS hz hl hc hs
  exact lv_dup hF.1 hF.2.1 hd ((cv_cat v).trans hv) (k p e s m args below meth c base b D aC H locs cells slots ls hF hP hS hz hl hc hs)
theorem E_dup2 {v v2 : Value} (hv : v.category = 1) (hv2 : v2.category = 1) (hd : decode (xC X) pc = .ok (.dup2, 1)) (k : E l X r fa n σ kc ks (pc + 1) L (v :: v2 :: v :: v2 :: S)) : E l X r fa n σ kc ks pc L (v :: v2 :: S) := by
  intro p e s m args below meth c base b D aC H locs cells slots ls hF hP hS hz hl hc hs
  exact lv_dup2_11 hF.1 hF.2.1 hd ((cv_cat v).trans hv) ((cv_cat v2).trans hv2) (k p e s m args below meth c base b D aC H locs cells slots ls hF hP hS hz hl hc hs)
theorem E_pop {v : Value} (hv : v.category = 1) (hd : decode (xC X) pc = .ok (.pop, 1)) (k : E l X r fa n σ kc ks (pc + 1) L (S)) : E l X r fa n σ kc ks pc L (v :: S) := by
  intro p e s m args below meth c base b D aC H locs cells slots ls hF hP hS hz hl hc hs
  exact lv_pop hF.1 hF.2.1 hd ((cv_cat v).trans hv) (k p e s m args below meth c base b D aC H locs cells slots ls hF hP hS hz hl hc hs)
theorem E_ldc {idx : Nat} {v : Int32} (hw : Cond.constant (xY X).cls idx v ∈ TBL) (hd : decode (xC X) pc = .ok (.ldc idx, 2)) (k : E l X r fa n σ kc ks (pc + 2) L (.int v :: S)) : E l X r fa n σ kc ks pc L S := by
  intro p e s m args below meth c base b D aC H locs cells slots ls hF hP hS hz hl hc hs
  exact lv_ldc hF.1 hF.2.1 hF.2.2.2.2.1 (hF.2.2.2.2.2.1 _ hw) hd (k p e s m args below meth c base b D aC H locs cells slots ls hF hP hS hz hl hc hs)
theorem E_ldcw {idx : Nat} {v : Int32} (hw : Cond.constant (xY X).cls idx v ∈ TBL) (hd : decode (xC X) pc = .ok (.ldc_w idx, 3)) (k : E l X r fa n σ kc ks (pc + 3) L (.int v :: S)) : E l X r fa n σ kc ks pc L S := by
  intro p e s m args below meth c base b D aC H locs cells slots ls hF hP hS hz hl hc hs
  exact lv_ldcw hF.1 hF.2.1 hF.2.2.2.2.1 (hF.2.2.2.2.2.1 _ hw) hd (k p e s m args below meth c base b D aC H locs cells slots ls hF hP hS hz hl hc hs)
theorem E_ldc2 {idx : Nat} {v : Int64} (hw : Cond.constantLong (xY X).cls idx v ∈ TBL) (hd : decode (xC X) pc = .ok (.ldc2_w idx, 3)) (k : E l X r fa n σ kc ks (pc + 3) L (.long v :: S)) : E l X r fa n σ kc ks pc L S := by
  intro p e s m args below meth c base b D aC H locs cells slots ls hF hP hS hz hl hc hs
  exact lv_ldc2 hF.1 hF.2.1 hF.2.2.2.2.1 (hF.2.2.2.2.2.1 _ hw) hd (k p e s m args below meth c base b D aC H locs cells slots ls hF hP hS hz hl hc hs)
theorem E_iload_n {j : Fin 4} {i q : Nat} {x : Int32} (hi : (j : Nat) = i) (hq : L[q]? = some (i, .int x)) (hd : decode (xC X) pc = .ok (.iload_n j, 1)) (k : E l X r fa n σ kc ks (pc + 1) L (.int x :: S)) : E l X r fa n σ kc ks pc L S := by
  intro p e s m args below meth c base b D aC H locs cells slots ls hF hP hS hz hl hc hs
  exact lv_iload_n hF.1 hF.2.1 hd hi (lv_at hl q (cvL_at hq)) (k p e s m args below meth c base b D aC H locs cells slots ls hF hP hS hz hl hc hs)
theorem E_iload {i q : Nat} {x : Int32} (hq : L[q]? = some (i, .int x)) (hd : decode (xC X) pc = .ok (.iload i, 2)) (k : E l X r fa n σ kc ks (pc + 2) L (.int x :: S)) : E l X r fa n σ kc ks pc L S := by
  intro p e s m args below meth c base b D aC H locs cells slots ls hF hP hS hz hl hc hs
  exact lv_iload hF.1 hF.2.1 hd (lv_at hl q (cvL_at hq)) (k p e s m args below meth c base b D aC H locs cells slots ls hF hP hS hz hl hc hs)
theorem E_istore_n {j : Fin 4} {i : Nat} {x : Int32} {L' : List (Nat × Value)} (hi : (j : Nat) = i) (hn : i < xL X) (hL : (i, Value.int x) :: st1 i L = L') (hd : decode (xC X) pc = .ok (.istore_n j, 1)) (k : E l X r fa n σ kc ks (pc + 1) L' S) : E l X r fa n σ kc ks pc L (.int x :: S) := by
  intro p e s m args below meth c base b D aC H locs cells slots ls hF hP hS hz hl hc hs
  exact lv_istore_n (lv' := cvL base b L') hF.1 hF.2.1 hd hi hl hn (cvL_st1 hL) (fun ls' hl' => (k p e s m args below meth c base b D aC H locs cells slots ls' hF hP hS hz hl' hc hs))
theorem E_istore {i : Nat} {x : Int32} {L' : List (Nat × Value)} (hn : i < xL X) (hL : (i, Value.int x) :: st1 i L = L') (hd : decode (xC X) pc = .ok (.istore i, 2)) (k : E l X r fa n σ kc ks (pc + 2) L' S) : E l X r fa n σ kc ks pc L (.int x :: S) := by
  intro p e s m args below meth c base b D aC H locs cells slots ls hF hP hS hz hl hc hs
  exact lv_istore (lv' := cvL base b L') hF.1 hF.2.1 hd hl hn (cvL_st1 hL) (fun ls' hl' => (k p e s m args below meth c base b D aC H locs cells slots ls' hF hP hS hz hl' hc hs))
theorem E_lload_n {j : Fin 4} {i q : Nat} {x : Int64} (hi : (j : Nat) = i) (hq : L[q]? = some (i, .long x)) (hd : decode (xC X) pc = .ok (.lload_n j, 1)) (k : E l X r fa n σ kc ks (pc + 1) L (.long x :: S)) : E l X r fa n σ kc ks pc L S := by
  intro p e s m args below meth c base b D aC H locs cells slots ls hF hP hS hz hl hc hs
  exact lv_lload_n hF.1 hF.2.1 hd hi (lv_at hl q (cvL_at hq)) (k p e s m args below meth c base b D aC H locs cells slots ls hF hP hS hz hl hc hs)
theorem E_lload {i q : Nat} {x : Int64} (hq : L[q]? = some (i, .long x)) (hd : decode (xC X) pc = .ok (.lload i, 2)) (k : E l X r fa n σ kc ks (pc + 2) L (.long x :: S)) : E l X r fa n σ kc ks pc L S := by
  intro p e s m args below meth c base b D aC H locs cells slots ls hF hP hS hz hl hc hs
  exact lv_lload hF.1 hF.2.1 hd (lv_at hl q (cvL_at hq)) (k p e s m args below meth c base b D aC H locs cells slots ls hF hP hS hz hl hc hs)
theorem E_lstore_n {j : Fin 4} {i : Nat} {x : Int64} {L' : List (Nat × Value)} (hi : (j : Nat) = i) (hn : i + 1 < xL X) (hL : (i, Value.long x) :: st2 i L = L') (hd : decode (xC X) pc = .ok (.lstore_n j, 1)) (k : E l X r fa n σ kc ks (pc + 1) L' S) : E l X r fa n σ kc ks pc L (.long x :: S) := by
  intro p e s m args below meth c base b D aC H locs cells slots ls hF hP hS hz hl hc hs
  exact lv_lstore_n (lv' := cvL base b L') hF.1 hF.2.1 hd hi hl hn (cvL_st2 hL) (fun ls' hl' => (k p e s m args below meth c base b D aC H locs cells slots ls' hF hP hS hz hl' hc hs))
theorem E_lstore {i : Nat} {x : Int64} {L' : List (Nat × Value)} (hn : i + 1 < xL X) (hL : (i, Value.long x) :: st2 i L = L') (hd : decode (xC X) pc = .ok (.lstore i, 2)) (k : E l X r fa n σ kc ks (pc + 2) L' S) : E l X r fa n σ kc ks pc L (.long x :: S) := by
  intro p e s m args below meth c base b D aC H locs cells slots ls hF hP hS hz hl hc hs
  exact lv_lstore (lv' := cvL base b L') hF.1 hF.2.1 hd hl hn (cvL_st2 hL) (fun ls' hl' => (k p e s m args below meth c base b D aC H locs cells slots ls' hF hP hS hz hl' hc hs))
theorem E_aload_n {j : Fin 4} {i q : Nat} {x : Nat} (hi : (j : Nat) = i) (hq : L[q]? = some (i, .ref x)) (hd : decode (xC X) pc = .ok (.aload_n j, 1)) (k : E l X r fa n σ kc ks (pc + 1) L (.ref x :: S)) : E l X r fa n σ kc ks pc L S := by
  intro p e s m args below meth c base b D aC H locs cells slots ls hF hP hS hz hl hc hs
  exact lv_aload_n hF.1 hF.2.1 hd hi (lv_at hl q (cvL_at hq)) (k p e s m args below meth c base b D aC H locs cells slots ls hF hP hS hz hl hc hs)
theorem E_aload {i q : Nat} {x : Nat} (hq : L[q]? = some (i, .ref x)) (hd : decode (xC X) pc = .ok (.aload i, 2)) (k : E l X r fa n σ kc ks (pc + 2) L (.ref x :: S)) : E l X r fa n σ kc ks pc L S := by
  intro p e s m args below meth c base b D aC H locs cells slots ls hF hP hS hz hl hc hs
  exact lv_aload hF.1 hF.2.1 hd (lv_at hl q (cvL_at hq)) (k p e s m args below meth c base b D aC H locs cells slots ls hF hP hS hz hl hc hs)
theorem E_astore_n {j : Fin 4} {i : Nat} {x : Nat} {L' : List (Nat × Value)} (hi : (j : Nat) = i) (hn : i < xL X) (hL : (i, Value.ref x) :: st1 i L = L') (hd : decode (xC X) pc = .ok (.astore_n j, 1)) (k : E l X r fa n σ kc ks (pc + 1) L' S) : E l X r fa n σ kc ks pc L (.ref x :: S) := by
  intro p e s m args below meth c base b D aC H locs cells slots ls hF hP hS hz hl hc hs
  exact lv_astore_n (lv' := cvL base b L') hF.1 hF.2.1 hd hi hl hn (cvL_st1 hL) (fun ls' hl' => (k p e s m args below meth c base b D aC H locs cells slots ls' hF hP hS hz hl' hc hs))
theorem E_astore {i : Nat} {x : Nat} {L' : List (Nat × Value)} (hn : i < xL X) (hL : (i, Value.ref x) :: st1 i L = L') (hd : decode (xC X) pc = .ok (.astore i, 2)) (k : E l X r fa n σ kc ks (pc + 2) L' S) : E l X r fa n σ kc ks pc L (.ref x :: S) := by
  intro p e s m args below meth c base b D aC H locs cells slots ls hF hP hS hz hl hc hs
  exact lv_astore (lv' := cvL base b L') hF.1 hF.2.1 hd hl hn (cvL_st1 hL) (fun ls' hl' => (k p e s m args below meth c base b D aC H locs cells slots ls' hF hP hS hz hl' hc hs))
theorem E_dload_n {j : Fin 4} {i q : Nat} {x : UInt64} (hi : (j : Nat) = i) (hq : L[q]? = some (i, .double x)) (hd : decode (xC X) pc = .ok (.dload_n j, 1)) (k : E l X r fa n σ kc ks (pc + 1) L (.double x :: S)) : E l X r fa n σ kc ks pc L S := by
  intro p e s m args below meth c base b D aC H locs cells slots ls hF hP hS hz hl hc hs
  exact lv_dload_n hF.1 hF.2.1 hd hi (lv_at hl q (cvL_at hq)) (k p e s m args below meth c base b D aC H locs cells slots ls hF hP hS hz hl hc hs)
theorem E_dload {i q : Nat} {x : UInt64} (hq : L[q]? = some (i, .double x)) (hd : decode (xC X) pc = .ok (.dload i, 2)) (k : E l X r fa n σ kc ks (pc + 2) L (.double x :: S)) : E l X r fa n σ kc ks pc L S := by
  intro p e s m args below meth c base b D aC H locs cells slots ls hF hP hS hz hl hc hs
  exact lv_dload hF.1 hF.2.1 hd (lv_at hl q (cvL_at hq)) (k p e s m args below meth c base b D aC H locs cells slots ls hF hP hS hz hl hc hs)
theorem E_dstore_n {j : Fin 4} {i : Nat} {x : UInt64} {L' : List (Nat × Value)} (hi : (j : Nat) = i) (hn : i + 1 < xL X) (hL : (i, Value.double x) :: st2 i L = L') (hd : decode (xC X) pc = .ok (.dstore_n j, 1)) (k : E l X r fa n σ kc ks (pc + 1) L' S) : E l X r fa n σ kc ks pc L (.double x :: S) := by
  intro p e s m args below meth c base b D aC H locs cells slots ls hF hP hS hz hl hc hs
  exact lv_dstore_n (lv' := cvL base b L') hF.1 hF.2.1 hd hi hl hn (cvL_st2 hL) (fun ls' hl' => (k p e s m args below meth c base b D aC H locs cells slots ls' hF hP hS hz hl' hc hs))
theorem E_dstore {i : Nat} {x : UInt64} {L' : List (Nat × Value)} (hn : i + 1 < xL X) (hL : (i, Value.double x) :: st2 i L = L') (hd : decode (xC X) pc = .ok (.dstore i, 2)) (k : E l X r fa n σ kc ks (pc + 2) L' S) : E l X r fa n σ kc ks pc L (.double x :: S) := by
  intro p e s m args below meth c base b D aC H locs cells slots ls hF hP hS hz hl hc hs
  exact lv_dstore (lv' := cvL base b L') hF.1 hF.2.1 hd hl hn (cvL_st2 hL) (fun ls' hl' => (k p e s m args below meth c base b D aC H locs cells slots ls' hF hP hS hz hl' hc hs))
theorem E_iinc {i q : Nat} {d : Int} {x v : Int32} {L' : List (Nat × Value)} (hq : L[q]? = some (i, .int x)) (hv : x + Int32.ofInt d = v) (hn : i < xL X) (hL : (i, Value.int v) :: st1 i L = L') (hd : decode (xC X) pc = .ok (.iinc i d, 3)) (k : E l X r fa n σ kc ks (pc + 3) L' S) : E l X r fa n σ kc ks pc L S := by
  intro p e s m args below meth c base b D aC H locs cells slots ls hF hP hS hz hl hc hs
  exact lv_iinc (lv' := cvL base b L') hF.1 hF.2.1 hd hl (cvL_at hq) hv hn (cvL_st1 hL) (fun ls' hl' => (k p e s m args below meth c base b D aC H locs cells slots ls' hF hP hS hz hl' hc hs))
theorem E_if_eq {x : Int32} {off : Int} {tgt : Nat} (ht : (pc : Int) + off = (tgt : Int)) (hd : decode (xC X) pc = .ok (.ifCond .eq off, 3)) (kt : x = 0 → E l X r fa n σ kc ks tgt L S) (kf : ¬ x = 0 → E l X r fa n σ kc ks (pc + 3) L S) : E l X r fa n σ kc ks pc L (.int x :: S) := by
  intro p e s m args below meth c base b D aC H locs cells slots ls hF hP hS hz hl hc hs
  exact lv_if_eq hF.1 hF.2.1 hd ht (fun h => (kt h p e s m args below meth c base b D aC H locs cells slots ls hF hP hS hz hl hc hs)) (fun h => (kf h p e s m args below meth c base b D aC H locs cells slots ls hF hP hS hz hl hc hs))
theorem E_if_ne {x : Int32} {off : Int} {tgt : Nat} (ht : (pc : Int) + off = (tgt : Int)) (hd : decode (xC X) pc = .ok (.ifCond .ne off, 3)) (kt : ¬ x = 0 → E l X r fa n σ kc ks tgt L S) (kf : x = 0 → E l X r fa n σ kc ks (pc + 3) L S) : E l X r fa n σ kc ks pc L (.int x :: S) := by
  intro p e s m args below meth c base b D aC H locs cells slots ls hF hP hS hz hl hc hs
  exact lv_if_ne hF.1 hF.2.1 hd ht (fun h => (kt h p e s m args below meth c base b D aC H locs cells slots ls hF hP hS hz hl hc hs)) (fun h => (kf h p e s m args below meth c base b D aC H locs cells slots ls hF hP hS hz hl hc hs))
theorem E_if_lt {x : Int32} {off : Int} {tgt : Nat} (ht : (pc : Int) + off = (tgt : Int)) (hd : decode (xC X) pc = .ok (.ifCond .lt off, 3)) (kt : x < 0 → E l X r fa n σ kc ks tgt L S) (kf : ¬ x < 0 → E l X r fa n σ kc ks (pc + 3) L S) : E l X r fa n σ kc ks pc L (.int x :: S) := by
  intro p e s m args below meth c base b D aC H locs cells slots ls hF hP hS hz hl hc hs
  exact lv_if_lt hF.1 hF.2.1 hd ht (fun h => (kt h p e s m args below meth c base b D aC H locs cells slots ls hF hP hS hz hl hc hs)) (fun h => (kf h p e s m args below meth c base b D aC H locs cells slots ls hF hP hS hz hl hc hs))
theorem E_if_ge {x : Int32} {off : Int} {tgt : Nat} (ht : (pc : Int) + off = (tgt : Int)) (hd : decode (xC X) pc = .ok (.ifCond .ge off, 3)) (kt : 0 ≤ x → E l X r fa n σ kc ks tgt L S) (kf : ¬ 0 ≤ x → E l X r fa n σ kc ks (pc + 3) L S) : E l X r fa n σ kc ks pc L (.int x :: S) := by
  intro p e s m args below meth c base b D aC H locs cells slots ls hF hP hS hz hl hc hs
  exact lv_if_ge hF.1 hF.2.1 hd ht (fun h => (kt h p e s m args below meth c base b D aC H locs cells slots ls hF hP hS hz hl hc hs)) (fun h => (kf h p e s m args below meth c base b D aC H locs cells slots ls hF hP hS hz hl hc hs))
theorem E_if_gt {x : Int32} {off : Int} {tgt : Nat} (ht : (pc : Int) + off = (tgt : Int)) (hd : decode (xC X) pc = .ok (.ifCond .gt off, 3)) (kt : 0 < x → E l X r fa n σ kc ks tgt L S) (kf : ¬ 0 < x → E l X r fa n σ kc ks (pc + 3) L S) : E l X r fa n σ kc ks pc L (.int x :: S) := by
  intro p e s m args below meth c base b D aC H locs cells slots ls hF hP hS hz hl hc hs
  exact lv_if_gt hF.1 hF.2.1 hd ht (fun h => (kt h p e s m args below meth c base b D aC H locs cells slots ls hF hP hS hz hl hc hs)) (fun h => (kf h p e s m args below meth c base b D aC H locs cells slots ls hF hP hS hz hl hc hs))
theorem E_if_le {x : Int32} {off : Int} {tgt : Nat} (ht : (pc : Int) + off = (tgt : Int)) (hd : decode (xC X) pc = .ok (.ifCond .le off, 3)) (kt : x ≤ 0 → E l X r fa n σ kc ks tgt L S) (kf : ¬ x ≤ 0 → E l X r fa n σ kc ks (pc + 3) L S) : E l X r fa n σ kc ks pc L (.int x :: S) := by
  intro p e s m args below meth c base b D aC H locs cells slots ls hF hP hS hz hl hc hs
  exact lv_if_le hF.1 hF.2.1 hd ht (fun h => (kt h p e s m args below meth c base b D aC H locs cells slots ls hF hP hS hz hl hc hs)) (fun h => (kf h p e s m args below meth c base b D aC H locs cells slots ls hF hP hS hz hl hc hs))
theorem E_icmp_eq {x y : Int32} {off : Int} {tgt : Nat} (ht : (pc : Int) + off = (tgt : Int)) (hd : decode (xC X) pc = .ok (.if_icmp .eq off, 3)) (kt : x = y → E l X r fa n σ kc ks tgt L S) (kf : ¬ x = y → E l X r fa n σ kc ks (pc + 3) L S) : E l X r fa n σ kc ks pc L (.int y :: .int x :: S) := by
  intro p e s m args below meth c base b D aC H locs cells slots ls hF hP hS hz hl hc hs
  exact lv_icmp_eq hF.1 hF.2.1 hd ht (fun h => (kt h p e s m args below meth c base b D aC H locs cells slots ls hF hP hS hz hl hc hs)) (fun h => (kf h p e s m args below meth c base b D aC H locs cells slots ls hF hP hS hz hl hc hs))
theorem E_icmp_ne {x y : Int32} {off : Int} {tgt : Nat} (ht : (pc : Int) + off = (tgt : Int)) (hd : decode (xC X) pc = .ok (.if_icmp .ne off, 3)) (kt : ¬ x = y → E l X r fa n σ kc ks tgt L S) (kf : x = y → E l X r fa n σ kc ks (pc + 3) L S) : E l X r fa n σ kc ks pc L (.int y :: .int x :: S) := by
  intro p e s m args below meth c base b D aC H locs cells slots ls hF hP hS hz hl hc hs
  exact lv_icmp_ne hF.1 hF.2.1 hd ht (fun h => (kt h p e s m args below meth c base b D aC H locs cells slots ls hF hP hS hz hl hc hs)) (fun h => (kf h p e s m args below meth c base b D aC H locs cells slots ls hF hP hS hz hl hc hs))
theorem E_icmp_lt {x y : Int32} {off : Int} {tgt : Nat} (ht : (pc : Int) + off = (tgt : Int)) (hd : decode (xC X) pc = .ok (.if_icmp .lt off, 3)) (kt : x < y → E l X r fa n σ kc ks tgt L S) (kf : ¬ x < y → E l X r fa n σ kc ks (pc + 3) L S) : E l X r fa n σ kc ks pc L (.int y :: .int x :: S) := by
  intro p e s m args below meth c base b D aC H locs cells slots ls hF hP hS hz hl hc hs
  exact lv_icmp_lt hF.1 hF.2.1 hd ht (fun h => (kt h p e s m args below meth c base b D aC H locs cells slots ls hF hP hS hz hl hc hs)) (fun h => (kf h p e s m args below meth c base b D aC H locs cells slots ls hF hP hS hz hl hc hs))
theorem E_icmp_ge {x y : Int32} {off : Int} {tgt : Nat} (ht : (pc : Int) + off = (tgt : Int)) (hd : decode (xC X) pc = .ok (.if_icmp .ge off, 3)) (kt : y ≤ x → E l X r fa n σ kc ks tgt L S) (kf : ¬ y ≤ x → E l X r fa n σ kc ks (pc + 3) L S) : E l X r fa n σ kc ks pc L (.int y :: .int x :: S) := by
  intro p e s m args below meth c base b D aC H locs cells slots ls hF hP hS hz hl hc hs
  exact lv_icmp_ge hF.1 hF.2.1 hd ht (fun h => (kt h p e s m args below meth c base b D aC H locs cells slots ls hF hP hS hz hl hc hs)) (fun h => (kf h p e s m args below meth c base b D aC H locs cells slots ls hF hP hS hz hl hc hs))
theorem E_icmp_gt {x y : Int32} {off : Int} {tgt : Nat} (ht : (pc : Int) + off = (tgt : Int)) (hd : decode (xC X) pc = .ok (.if_icmp .gt off, 3)) (kt : y < x → E l X r fa n σ kc ks tgt L S) (kf : ¬ y < x → E l X r fa n σ kc ks (pc + 3) L S) : E l X r fa n σ kc ks pc L (.int y :: .int x :: S) := by
  intro p e s m args below meth c base b D aC H locs cells slots ls hF hP hS hz hl hc hs
  exact lv_icmp_gt hF.1 hF.2.1 hd ht (fun h => (kt h p e s m args below meth c base b D aC H locs cells slots ls hF hP hS hz hl hc hs)) (fun h => (kf h p e s m args below meth c base b D aC H locs cells slots ls hF hP hS hz hl hc hs))
theorem E_icmp_le {x y : Int32} {off : Int} {tgt : Nat} (ht : (pc : Int) + off = (tgt : Int)) (hd : decode (xC X) pc = .ok (.if_icmp .le off, 3)) (kt : x ≤ y → E l X r fa n σ kc ks tgt L S) (kf : ¬ x ≤ y → E l X r fa n σ kc ks (pc + 3) L S) : E l X r fa n σ kc ks pc L (.int y :: .int x :: S) := by
  intro p e s m args below meth c base b D aC H locs cells slots ls hF hP hS hz hl hc hs
  exact lv_icmp_le hF.1 hF.2.1 hd ht (fun h => (kt h p e s m args below meth c base b D aC H locs cells slots ls hF hP hS hz hl hc hs)) (fun h => (kf h p e s m args below meth c base b D aC H locs cells slots ls hF hP hS hz hl hc hs))
theorem E_goto {off : Int} {tgt : Nat} (ht : (pc : Int) + off = (tgt : Int)) (hd : decode (xC X) pc = .ok (.goto off, 3)) (k : E l X r fa n σ kc ks tgt L S) : E l X r fa n σ kc ks pc L S := by
  intro p e s m args below meth c base b D aC H locs cells slots ls hF hP hS hz hl hc hs
  exact lv_goto hF.1 hF.2.1 hd ht (k p e s m args below meth c base b D aC H locs cells slots ls hF hP hS hz hl hc hs)
theorem E_tabOut {dflt lo hi : Int} {offs : Array Int} {len : Nat} {x : Int32} {tgt : Nat} (h : x.toInt < lo ∨ hi < x.toInt) (ht : (pc : Int) + dflt = (tgt : Int)) (hd : decode (xC X) pc = .ok (.tableswitch dflt lo hi offs, len)) (k : E l X r fa n σ kc ks tgt L S) : E l X r fa n σ kc ks pc L (.int x :: S) := by
  intro p e s m args below meth c base b D aC H locs cells slots ls hF hP hS hz hl hc hs
  exact lv_tableOut hF.1 hF.2.1 hd h ht (k p e s m args below meth c base b D aC H locs cells slots ls hF hP hS hz hl hc hs)
theorem E_tabIn {dflt lo hi : Int} {offs : Array Int} {len : Nat} {x : Int32} {off : Int} {tgt : Nat} (h1 : ¬ x.toInt < lo) (h2 : ¬ hi < x.toInt) (ho : offs[(x.toInt - lo).toNat]? = some off) (ht : (pc : Int) + off = (tgt : Int)) (hd : decode (xC X) pc = .ok (.tableswitch dflt lo hi offs, len)) (k : E l X r fa n σ kc ks tgt L S) : E l X r fa n σ kc ks pc L (.int x :: S) := by
  intro p e s m args below meth c base b D aC H locs cells slots ls hF hP hS hz hl hc hs
  exact lv_tableIn hF.1 hF.2.1 hd h1 h2 ho ht (k p e s m args below meth c base b D aC H locs cells slots ls hF hP hS hz hl hc hs)
end ER
