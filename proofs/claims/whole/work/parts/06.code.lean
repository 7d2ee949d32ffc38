def F_X0_add (fl : Nat) (v0 : Nat) (v1 : Int32) (s : Mem) : Option (Int32 × Mem) :=
  bd (ldA s v0 0 2) fun r1 =>
  if (gI s v0 1) < (nI r1.2) then (
    bd (ldA s v0 0 2) fun r4 =>
    gd (inR (gI s v0 1) r4.2) <|
    some ((1 : Int32), (pI (pI s r4.1 (gI s v0 1).toNatClampNeg (vp_nar .char v1)) v0 1 ((gI (pI s r4.1 (gI s v0 1).toNatClampNeg (vp_nar .char v1)) v0 1) + (1 : Int32)))))
  else
  some ((0 : Int32), s)
def F_X0_readSign (fl : Nat) (v0 : Nat) (v1 : Int32) (s : Mem) : Option (Int32 × Mem) :=
  if (gI s v0 1) ≤ (gI s v0 2) then (
    some ((0 : Int32), s))
  else
  bd (ldA s v0 0 2) fun r2 =>
  if (nI r2.2) ≤ (gI s v0 2) then (
    some ((0 : Int32), s))
  else
  bd (ldA s v0 0 2) fun r5 =>
  gd (inR (gI s v0 2) r5.2) <|
  if (gI s r5.1 (gI s v0 2).toNatClampNeg) = v1 then (
    some ((1 : Int32), (pI s v0 2 ((gI s v0 2) + (1 : Int32)))))
  else
  some ((0 : Int32), s)
def F_X0_readKind (fl : Nat) (v0 : Nat) (s : Mem) : Option (Int32 × Mem) :=
  bd (F_X0_readSign fl v0 (116 : Int32) (pI s v0 4 (0 : Int32))) fun q1 =>
  if q1.1 = 0 then (
    bd (F_X0_readSign fl v0 (99 : Int32) (pI q1.2 v0 4 (1 : Int32))) fun q4 =>
    if q4.1 = 0 then (
      bd (F_X0_readSign fl v0 (109 : Int32) (pI q4.2 v0 4 (2 : Int32))) fun q7 =>
      gd (q7.1 = 0 ∨ q7.1 = 1) <|
      some (q7.1, q7.2))
    else
    some ((1 : Int32), q4.2))
  else
  some ((1 : Int32), q1.2)
def F_X0_readDigit (fl : Nat) (v0 : Nat) (s : Mem) : Option (Int32 × Mem) :=
  if (gI s v0 1) ≤ (gI s v0 2) then (
    some ((-1 : Int32), s))
  else
  bd (ldA s v0 0 2) fun r2 =>
  if (nI r2.2) ≤ (gI s v0 2) then (
    some ((-1 : Int32), s))
  else
  bd (ldA s v0 0 2) fun r5 =>
  gd (inR (gI s v0 2) r5.2) <|
  if (gI s r5.1 (gI s v0 2).toNatClampNeg) < (48 : Int32) then (
    some ((-1 : Int32), s))
  else
  bd (ldA s v0 0 2) fun r9 =>
  gd (inR (gI s v0 2) r9.2) <|
  if (gI s r9.1 (gI s v0 2).toNatClampNeg) ≤ (57 : Int32) then (
    bd (ldA (pI s v0 2 ((gI s v0 2) + (1 : Int32))) v0 0 2) fun r13 =>
    gd (inR ((gI (pI s v0 2 ((gI s v0 2) + (1 : Int32))) v0 2) - (1 : Int32)) r13.2) <|
    some (((gI (pI s v0 2 ((gI s v0 2) + (1 : Int32))) r13.1 ((gI (pI s v0 2 ((gI s v0 2) + (1 : Int32))) v0 2) - (1 : Int32)).toNatClampNeg) - (48 : Int32)), (pI s v0 2 ((gI s v0 2) + (1 : Int32)))))
  else
  some ((-1 : Int32), s)
def B_X0_readNumber_23 (fl : Nat) (v0 : Nat) (v1 : Int32) (v2 : Int32) (w0 : Int32) (s : Mem) : Option (Int32 × Mem) :=
  bd (ldA s v0 5 0) fun r1 =>
  if 0 ≤ w0 then (
    gd (inR v1 r1.2) <|
    some ((1 : Int32), (pI s r1.1 v1.toNatClampNeg (((10 : Int32) * v2) + w0))))
  else
  gd (inR v1 r1.2) <|
  some ((1 : Int32), (pI s r1.1 v1.toNatClampNeg v2))
def F_X0_readNumber (fl : Nat) (v0 : Nat) (v1 : Int32) (s : Mem) : Option (Int32 × Mem) :=
  bd (F_X0_readDigit fl v0 s) fun q6 =>
  if 0 ≤ q6.1 then (
    if q6.1 ≤ 0 then (
      B_X0_readNumber_23 fl v0 v1 q6.1 (-1 : Int32) q6.2)
    else
    bd (F_X0_readDigit fl v0 q6.2) fun q10 =>
    B_X0_readNumber_23 fl v0 v1 q6.1 q10.1 q10.2)
  else
  some ((0 : Int32), q6.2)
def F_X0_readPower (fl : Nat) (v0 : Nat) (s : Mem) : Option (Int32 × Mem) :=
  bd (ldA s v0 5 0) fun r1 =>
  gd (inR (4 : Int32) r1.2) <|
  if (gI (pI s r1.1 (4 : Int32).toNatClampNeg (0 : Int32)) v0 2) = (gI (pI s r1.1 (4 : Int32).toNatClampNeg (0 : Int32)) v0 1) then (
    some ((1 : Int32), (pI s r1.1 (4 : Int32).toNatClampNeg (0 : Int32))))
  else
  bd (F_X0_readSign fl v0 (112 : Int32) (pI s r1.1 (4 : Int32).toNatClampNeg (0 : Int32))) fun q5 =>
  if q5.1 = 0 then (
    some ((0 : Int32), q5.2))
  else
  bd (F_X0_readNumber fl v0 (4 : Int32) q5.2) fun q8 =>
  if q8.1 = 0 then (
    some ((0 : Int32), q8.2))
  else
  some ((1 : Int32), q8.2)
def F_X0_readAll (fl : Nat) (v0 : Nat) (s : Mem) : Option (Int32 × Mem) :=
  bd (F_X0_readKind fl v0 s) fun q1 =>
  if q1.1 = 0 then (
    some ((0 : Int32), q1.2))
  else
  bd (F_X0_readNumber fl v0 (0 : Int32) q1.2) fun q4 =>
  if q4.1 = 0 then (
    some ((0 : Int32), q4.2))
  else
  bd (F_X0_readSign fl v0 (120 : Int32) q4.2) fun q7 =>
  if q7.1 = 0 then (
    some ((0 : Int32), q7.2))
  else
  bd (F_X0_readNumber fl v0 (1 : Int32) q7.2) fun q10 =>
  if q10.1 = 0 then (
    some ((0 : Int32), q10.2))
  else
  bd (F_X0_readSign fl v0 (64 : Int32) q10.2) fun q13 =>
  if q13.1 = 0 then (
    some ((0 : Int32), q13.2))
  else
  bd (F_X0_readNumber fl v0 (2 : Int32) q13.2) fun q16 =>
  if q16.1 = 0 then (
    some ((0 : Int32), q16.2))
  else
  bd (F_X0_readSign fl v0 (43 : Int32) q16.2) fun q19 =>
  if q19.1 = 0 then (
    some ((0 : Int32), q19.2))
  else
  bd (F_X0_readNumber fl v0 (3 : Int32) q19.2) fun q22 =>
  if q22.1 = 0 then (
    some ((0 : Int32), q22.2))
  else
  bd (F_X0_readPower fl v0 q22.2) fun q25 =>
  if q25.1 = 0 then (
    some ((0 : Int32), q25.2))
  else
  if (gI q25.2 v0 2) = (gI q25.2 v0 1) then (
    some ((1 : Int32), q25.2))
  else
  some ((0 : Int32), q25.2)
def F_X0_parse (fl : Nat) (v0 : Nat) (s : Mem) : Option (Int32 × Mem) :=
  bd (F_X0_readAll fl v0 (pI s v0 2 (0 : Int32))) fun q1 =>
  if q1.1 = 0 then (
    gd (q1.1 = 0 ∨ q1.1 = 1) <|
    some (q1.1, (pI (pI q1.2 v0 3 (gI q1.2 v0 2)) v0 1 (0 : Int32))))
  else
  gd (q1.1 = 0 ∨ q1.1 = 1) <|
  some (q1.1, (pI (pI q1.2 v0 3 (-1 : Int32)) v0 1 (0 : Int32)))
def F_X4_copyFrom (fl : Nat) (v0 : Nat) (v1 : Nat) (s : Mem) : Option Mem :=
  some (pI (pI (pI (pI (pI s v0 0 (gI s v1 0)) v0 1 (gI (pI s v0 0 (gI s v1 0)) v1 1)) v0 2 (gI (pI (pI s v0 0 (gI s v1 0)) v0 1 (gI (pI s v0 0 (gI s v1 0)) v1 1)) v1 2)) v0 3 (gI (pI (pI (pI s v0 0 (gI s v1 0)) v0 1 (gI (pI s v0 0 (gI s v1 0)) v1 1)) v0 2 (gI (pI (pI s v0 0 (gI s v1 0)) v0 1 (gI (pI s v0 0 (gI s v1 0)) v1 1)) v1 2)) v1 3)) v0 4 (gI (pI (pI (pI (pI s v0 0 (gI s v1 0)) v0 1 (gI (pI s v0 0 (gI s v1 0)) v1 1)) v0 2 (gI (pI (pI s v0 0 (gI s v1 0)) v0 1 (gI (pI s v0 0 (gI s v1 0)) v1 1)) v1 2)) v0 3 (gI (pI (pI (pI s v0 0 (gI s v1 0)) v0 1 (gI (pI s v0 0 (gI s v1 0)) v1 1)) v0 2 (gI (pI (pI s v0 0 (gI s v1 0)) v0 1 (gI (pI s v0 0 (gI s v1 0)) v1 1)) v1 2)) v1 3)) v1 4))
def F_X3_copyFrom (fl : Nat) (v0 : Nat) (v1 : Nat) (s : Mem) : Option Mem :=
  gd ((gI (pI (pI (pI (pL (pI (pI (pI (pI (pI (pI s v0 0 (gI s v1 0)) v0 1 (gI (pI s v0 0 (gI s v1 0)) v1 1)) v0 2 (gI (pI (pI s v0 0 (gI s v1 0)) v0 1 (gI (pI s v0 0 (gI s v1 0)) v1 1)) v1 2)) v0 3 (gI (pI (pI (pI s v0 0 (gI s v1 0)) v0 1 (gI (pI s v0 0 (gI s v1 0)) v1 1)) v0 2 (gI (pI (pI s v0 0 (gI s v1 0)) v0 1 (gI (pI s v0 0 (gI s v1 0)) v1 1)) v1 2)) v1 3)) v0 4 (gI (pI (pI (pI (pI s v0 0 (gI s v1 0)) v0 1 (gI (pI s v0 0 (gI s v1 0)) v1 1)) v0 2 (gI (pI (pI s v0 0 (gI s v1 0)) v0 1 (gI (pI s v0 0 (gI s v1 0)) v1 1)) v1 2)) v0 3 (gI (pI (pI (pI s v0 0 (gI s v1 0)) v0 1 (gI (pI s v0 0 (gI s v1 0)) v1 1)) v0 2 (gI (pI (pI s v0 0 (gI s v1 0)) v0 1 (gI (pI s v0 0 (gI s v1 0)) v1 1)) v1 2)) v1 3)) v1 4)) v0 5 (gI (pI (pI (pI (pI (pI s v0 0 (gI s v1 0)) v0 1 (gI (pI s v0 0 (gI s v1 0)) v1 1)) v0 2 (gI (pI (pI s v0 0 (gI s v1 0)) v0 1 (gI (pI s v0 0 (gI s v1 0)) v1 1)) v1 2)) v0 3 (gI (pI (pI (pI s v0 0 (gI s v1 0)) v0 1 (gI (pI s v0 0 (gI s v1 0)) v1 1)) v0 2 (gI (pI (pI s v0 0 (gI s v1 0)) v0 1 (gI (pI s v0 0 (gI s v1 0)) v1 1)) v1 2)) v1 3)) v0 4 (gI (pI (pI (pI (pI s v0 0 (gI s v1 0)) v0 1 (gI (pI s v0 0 (gI s v1 0)) v1 1)) v0 2 (gI (pI (pI s v0 0 (gI s v1 0)) v0 1 (gI (pI s v0 0 (gI s v1 0)) v1 1)) v1 2)) v0 3 (gI (pI (pI (pI s v0 0 (gI s v1 0)) v0 1 (gI (pI s v0 0 (gI s v1 0)) v1 1)) v0 2 (gI (pI (pI s v0 0 (gI s v1 0)) v0 1 (gI (pI s v0 0 (gI s v1 0)) v1 1)) v1 2)) v1 3)) v1 4)) v1 5)) v0 6 (gL (pI (pI (pI (pI (pI (pI s v0 0 (gI s v1 0)) v0 1 (gI (pI s v0 0 (gI s v1 0)) v1 1)) v0 2 (gI (pI (pI s v0 0 (gI s v1 0)) v0 1 (gI (pI s v0 0 (gI s v1 0)) v1 1)) v1 2)) v0 3 (gI (pI (pI (pI s v0 0 (gI s v1 0)) v0 1 (gI (pI s v0 0 (gI s v1 0)) v1 1)) v0 2 (gI (pI (pI s v0 0 (gI s v1 0)) v0 1 (gI (pI s v0 0 (gI s v1 0)) v1 1)) v1 2)) v1 3)) v0 4 (gI (pI (pI (pI (pI s v0 0 (gI s v1 0)) v0 1 (gI (pI s v0 0 (gI s v1 0)) v1 1)) v0 2 (gI (pI (pI s v0 0 (gI s v1 0)) v0 1 (gI (pI s v0 0 (gI s v1 0)) v1 1)) v1 2)) v0 3 (gI (pI (pI (pI s v0 0 (gI s v1 0)) v0 1 (gI (pI s v0 0 (gI s v1 0)) v1 1)) v0 2 (gI (pI (pI s v0 0 (gI s v1 0)) v0 1 (gI (pI s v0 0 (gI s v1 0)) v1 1)) v1 2)) v1 3)) v1 4)) v0 5 (gI (pI (pI (pI (pI (pI s v0 0 (gI s v1 0)) v0 1 (gI (pI s v0 0 (gI s v1 0)) v1 1)) v0 2 (gI (pI (pI s v0 0 (gI s v1 0)) v0 1 (gI (pI s v0 0 (gI s v1 0)) v1 1)) v1 2)) v0 3 (gI (pI (pI (pI s v0 0 (gI s v1 0)) v0 1 (gI (pI s v0 0 (gI s v1 0)) v1 1)) v0 2 (gI (pI (pI s v0 0 (gI s v1 0)) v0 1 (gI (pI s v0 0 (gI s v1 0)) v1 1)) v1 2)) v1 3)) v0 4 (gI (pI (pI (pI (pI s v0 0 (gI s v1 0)) v0 1 (gI (pI s v0 0 (gI s v1 0)) v1 1)) v0 2 (gI (pI (pI s v0 0 (gI s v1 0)) v0 1 (gI (pI s v0 0 (gI s v1 0)) v1 1)) v1 2)) v0 3 (gI (pI (pI (pI s v0 0 (gI s v1 0)) v0 1 (gI (pI s v0 0 (gI s v1 0)) v1 1)) v0 2 (gI (pI (pI s v0 0 (gI s v1 0)) v0 1 (gI (pI s v0 0 (gI s v1 0)) v1 1)) v1 2)) v1 3)) v1 4)) v1 5)) v1 6)) v0 7 (gI (pL (pI (pI (pI (pI (pI (pI s v0 0 (gI s v1 0)) v0 1 (gI (pI s v0 0 (gI s v1 0)) v1 1)) v0 2 (gI (pI (pI s v0 0 (gI s v1 0)) v0 1 (gI (pI s v0 0 (gI s v1 0)) v1 1)) v1 2)) v0 3 (gI (pI (pI (pI s v0 0 (gI s v1 0)) v0 1 (gI (pI s v0 0 (gI s v1 0)) v1 1)) v0 2 (gI (pI (pI s v0 0 (gI s v1 0)) v0 1 (gI (pI s v0 0 (gI s v1 0)) v1 1)) v1 2)) v1 3)) v0 4 (gI (pI (pI (pI (pI s v0 0 (gI s v1 0)) v0 1 (gI (pI s v0 0 (gI s v1 0)) v1 1)) v0 2 (gI (pI (pI s v0 0 (gI s v1 0)) v0 1 (gI (pI s v0 0 (gI s v1 0)) v1 1)) v1 2)) v0 3 (gI (pI (pI (pI s v0 0 (gI s v1 0)) v0 1 (gI (pI s v0 0 (gI s v1 0)) v1 1)) v0 2 (gI (pI (pI s v0 0 (gI s v1 0)) v0 1 (gI (pI s v0 0 (gI s v1 0)) v1 1)) v1 2)) v1 3)) v1 4)) v0 5 (gI (pI (pI (pI (pI (pI s v0 0 (gI s v1 0)) v0 1 (gI (pI s v0 0 (gI s v1 0)) v1 1)) v0 2 (gI (pI (pI s v0 0 (gI s v1 0)) v0 1 (gI (pI s v0 0 (gI s v1 0)) v1 1)) v1 2)) v0 3 (gI (pI (pI (pI s v0 0 (gI s v1 0)) v0 1 (gI (pI s v0 0 (gI s v1 0)) v1 1)) v0 2 (gI (pI (pI s v0 0 (gI s v1 0)) v0 1 (gI (pI s v0 0 (gI s v1 0)) v1 1)) v1 2)) v1 3)) v0 4 (gI (pI (pI (pI (pI s v0 0 (gI s v1 0)) v0 1 (gI (pI s v0 0 (gI s v1 0)) v1 1)) v0 2 (gI (pI (pI s v0 0 (gI s v1 0)) v0 1 (gI (pI s v0 0 (gI s v1 0)) v1 1)) v1 2)) v0 3 (gI (pI (pI (pI s v0 0 (gI s v1 0)) v0 1 (gI (pI s v0 0 (gI s v1 0)) v1 1)) v0 2 (gI (pI (pI s v0 0 (gI s v1 0)) v0 1 (gI (pI s v0 0 (gI s v1 0)) v1 1)) v1 2)) v1 3)) v1 4)) v1 5)) v0 6 (gL (pI (pI (pI (pI (pI (pI s v0 0 (gI s v1 0)) v0 1 (gI (pI s v0 0 (gI s v1 0)) v1 1)) v0 2 (gI (pI (pI s v0 0 (gI s v1 0)) v0 1 (gI (pI s v0 0 (gI s v1 0)) v1 1)) v1 2)) v0 3 (gI (pI (pI (pI s v0 0 (gI s v1 0)) v0 1 (gI (pI s v0 0 (gI s v1 0)) v1 1)) v0 2 (gI (pI (pI s v0 0 (gI s v1 0)) v0 1 (gI (pI s v0 0 (gI s v1 0)) v1 1)) v1 2)) v1 3)) v0 4 (gI (pI (pI (pI (pI s v0 0 (gI s v1 0)) v0 1 (gI (pI s v0 0 (gI s v1 0)) v1 1)) v0 2 (gI (pI (pI s v0 0 (gI s v1 0)) v0 1 (gI (pI s v0 0 (gI s v1 0)) v1 1)) v1 2)) v0 3 (gI (pI (pI (pI s v0 0 (gI s v1 0)) v0 1 (gI (pI s v0 0 (gI s v1 0)) v1 1)) v0 2 (gI (pI (pI s v0 0 (gI s v1 0)) v0 1 (gI (pI s v0 0 (gI s v1 0)) v1 1)) v1 2)) v1 3)) v1 4)) v0 5 (gI (pI (pI (pI (pI (pI s v0 0 (gI s v1 0)) v0 1 (gI (pI s v0 0 (gI s v1 0)) v1 1)) v0 2 (gI (pI (pI s v0 0 (gI s v1 0)) v0 1 (gI (pI s v0 0 (gI s v1 0)) v1 1)) v1 2)) v0 3 (gI (pI (pI (pI s v0 0 (gI s v1 0)) v0 1 (gI (pI s v0 0 (gI s v1 0)) v1 1)) v0 2 (gI (pI (pI s v0 0 (gI s v1 0)) v0 1 (gI (pI s v0 0 (gI s v1 0)) v1 1)) v1 2)) v1 3)) v0 4 (gI (pI (pI (pI (pI s v0 0 (gI s v1 0)) v0 1 (gI (pI s v0 0 (gI s v1 0)) v1 1)) v0 2 (gI (pI (pI s v0 0 (gI s v1 0)) v0 1 (gI (pI s v0 0 (gI s v1 0)) v1 1)) v1 2)) v0 3 (gI (pI (pI (pI s v0 0 (gI s v1 0)) v0 1 (gI (pI s v0 0 (gI s v1 0)) v1 1)) v0 2 (gI (pI (pI s v0 0 (gI s v1 0)) v0 1 (gI (pI s v0 0 (gI s v1 0)) v1 1)) v1 2)) v1 3)) v1 4)) v1 5)) v1 6)) v1 7)) v0 8 (gI (pI (pL (pI (pI (pI (pI (pI (pI s v0 0 (gI s v1 0)) v0 1 (gI (pI s v0 0 (gI s v1 0)) v1 1)) v0 2 (gI (pI (pI s v0 0 (gI s v1 0)) v0 1 (gI (pI s v0 0 (gI s v1 0)) v1 1)) v1 2)) v0 3 (gI (pI (pI (pI s v0 0 (gI s v1 0)) v0 1 (gI (pI s v0 0 (gI s v1 0)) v1 1)) v0 2 (gI (pI (pI s v0 0 (gI s v1 0)) v0 1 (gI (pI s v0 0 (gI s v1 0)) v1 1)) v1 2)) v1 3)) v0 4 (gI (pI (pI (pI (pI s v0 0 (gI s v1 0)) v0 1 (gI (pI s v0 0 (gI s v1 0)) v1 1)) v0 2 (gI (pI (pI s v0 0 (gI s v1 0)) v0 1 (gI (pI s v0 0 (gI s v1 0)) v1 1)) v1 2)) v0 3 (gI (pI (pI (pI s v0 0 (gI s v1 0)) v0 1 (gI (pI s v0 0 (gI s v1 0)) v1 1)) v0 2 (gI (pI (pI s v0 0 (gI s v1 0)) v0 1 (gI (pI s v0 0 (gI s v1 0)) v1 1)) v1 2)) v1 3)) v1 4)) v0 5 (gI (pI (pI (pI (pI (pI s v0 0 (gI s v1 0)) v0 1 (gI (pI s v0 0 (gI s v1 0)) v1 1)) v0 2 (gI (pI (pI s v0 0 (gI s v1 0)) v0 1 (gI (pI s v0 0 (gI s v1 0)) v1 1)) v1 2)) v0 3 (gI (pI (pI (pI s v0 0 (gI s v1 0)) v0 1 (gI (pI s v0 0 (gI s v1 0)) v1 1)) v0 2 (gI (pI (pI s v0 0 (gI s v1 0)) v0 1 (gI (pI s v0 0 (gI s v1 0)) v1 1)) v1 2)) v1 3)) v0 4 (gI (pI (pI (pI (pI s v0 0 (gI s v1 0)) v0 1 (gI (pI s v0 0 (gI s v1 0)) v1 1)) v0 2 (gI (pI (pI s v0 0 (gI s v1 0)) v0 1 (gI (pI s v0 0 (gI s v1 0)) v1 1)) v1 2)) v0 3 (gI (pI (pI (pI s v0 0 (gI s v1 0)) v0 1 (gI (pI s v0 0 (gI s v1 0)) v1 1)) v0 2 (gI (pI (pI s v0 0 (gI s v1 0)) v0 1 (gI (pI s v0 0 (gI s v1 0)) v1 1)) v1 2)) v1 3)) v1 4)) v1 5)) v0 6 (gL (pI (pI (pI (pI (pI (pI s v0 0 (gI s v1 0)) v0 1 (gI (pI s v0 0 (gI s v1 0)) v1 1)) v0 2 (gI (pI (pI s v0 0 (gI s v1 0)) v0 1 (gI (pI s v0 0 (gI s v1 0)) v1 1)) v1 2)) v0 3 (gI (pI (pI (pI s v0 0 (gI s v1 0)) v0 1 (gI (pI s v0 0 (gI s v1 0)) v1 1)) v0 2 (gI (pI (pI s v0 0 (gI s v1 0)) v0 1 (gI (pI s v0 0 (gI s v1 0)) v1 1)) v1 2)) v1 3)) v0 4 (gI (pI (pI (pI (pI s v0 0 (gI s v1 0)) v0 1 (gI (pI s v0 0 (gI s v1 0)) v1 1)) v0 2 (gI (pI (pI s v0 0 (gI s v1 0)) v0 1 (gI (pI s v0 0 (gI s v1 0)) v1 1)) v1 2)) v0 3 (gI (pI (pI (pI s v0 0 (gI s v1 0)) v0 1 (gI (pI s v0 0 (gI s v1 0)) v1 1)) v0 2 (gI (pI (pI s v0 0 (gI s v1 0)) v0 1 (gI (pI s v0 0 (gI s v1 0)) v1 1)) v1 2)) v1 3)) v1 4)) v0 5 (gI (pI (pI (pI (pI (pI s v0 0 (gI s v1 0)) v0 1 (gI (pI s v0 0 (gI s v1 0)) v1 1)) v0 2 (gI (pI (pI s v0 0 (gI s v1 0)) v0 1 (gI (pI s v0 0 (gI s v1 0)) v1 1)) v1 2)) v0 3 (gI (pI (pI (pI s v0 0 (gI s v1 0)) v0 1 (gI (pI s v0 0 (gI s v1 0)) v1 1)) v0 2 (gI (pI (pI s v0 0 (gI s v1 0)) v0 1 (gI (pI s v0 0 (gI s v1 0)) v1 1)) v1 2)) v1 3)) v0 4 (gI (pI (pI (pI (pI s v0 0 (gI s v1 0)) v0 1 (gI (pI s v0 0 (gI s v1 0)) v1 1)) v0 2 (gI (pI (pI s v0 0 (gI s v1 0)) v0 1 (gI (pI s v0 0 (gI s v1 0)) v1 1)) v1 2)) v0 3 (gI (pI (pI (pI s v0 0 (gI s v1 0)) v0 1 (gI (pI s v0 0 (gI s v1 0)) v1 1)) v0 2 (gI (pI (pI s v0 0 (gI s v1 0)) v0 1 (gI (pI s v0 0 (gI s v1 0)) v1 1)) v1 2)) v1 3)) v1 4)) v1 5)) v1 6)) v0 7 (gI (pL (pI (pI (pI (pI (pI (pI s v0 0 (gI s v1 0)) v0 1 (gI (pI s v0 0 (gI s v1 0)) v1 1)) v0 2 (gI (pI (pI s v0 0 (gI s v1 0)) v0 1 (gI (pI s v0 0 (gI s v1 0)) v1 1)) v1 2)) v0 3 (gI (pI (pI (pI s v0 0 (gI s v1 0)) v0 1 (gI (pI s v0 0 (gI s v1 0)) v1 1)) v0 2 (gI (pI (pI s v0 0 (gI s v1 0)) v0 1 (gI (pI s v0 0 (gI s v1 0)) v1 1)) v1 2)) v1 3)) v0 4 (gI (pI (pI (pI (pI s v0 0 (gI s v1 0)) v0 1 (gI (pI s v0 0 (gI s v1 0)) v1 1)) v0 2 (gI (pI (pI s v0 0 (gI s v1 0)) v0 1 (gI (pI s v0 0 (gI s v1 0)) v1 1)) v1 2)) v0 3 (gI (pI (pI (pI s v0 0 (gI s v1 0)) v0 1 (gI (pI s v0 0 (gI s v1 0)) v1 1)) v0 2 (gI (pI (pI s v0 0 (gI s v1 0)) v0 1 (gI (pI s v0 0 (gI s v1 0)) v1 1)) v1 2)) v1 3)) v1 4)) v0 5 (gI (pI (pI (pI (pI (pI s v0 0 (gI s v1 0)) v0 1 (gI (pI s v0 0 (gI s v1 0)) v1 1)) v0 2 (gI (pI (pI s v0 0 (gI s v1 0)) v0 1 (gI (pI s v0 0 (gI s v1 0)) v1 1)) v1 2)) v0 3 (gI (pI (pI (pI s v0 0 (gI s v1 0)) v0 1 (gI (pI s v0 0 (gI s v1 0)) v1 1)) v0 2 (gI (pI (pI s v0 0 (gI s v1 0)) v0 1 (gI (pI s v0 0 (gI s v1 0)) v1 1)) v1 2)) v1 3)) v0 4 (gI (pI (pI (pI (pI s v0 0 (gI s v1 0)) v0 1 (gI (pI s v0 0 (gI s v1 0)) v1 1)) v0 2 (gI (pI (pI s v0 0 (gI s v1 0)) v0 1 (gI (pI s v0 0 (gI s v1 0)) v1 1)) v1 2)) v0 3 (gI (pI (pI (pI s v0 0 (gI s v1 0)) v0 1 (gI (pI s v0 0 (gI s v1 0)) v1 1)) v0 2 (gI (pI (pI s v0 0 (gI s v1 0)) v0 1 (gI (pI s v0 0 (gI s v1 0)) v1 1)) v1 2)) v1 3)) v1 4)) v1 5)) v0 6 (gL (pI (pI (pI (pI (pI (pI s v0 0 (gI s v1 0)) v0 1 (gI (pI s v0 0 (gI s v1 0)) v1 1)) v0 2 (gI (pI (pI s v0 0 (gI s v1 0)) v0 1 (gI (pI s v0 0 (gI s v1 0)) v1 1)) v1 2)) v0 3 (gI (pI (pI (pI s v0 0 (gI s v1 0)) v0 1 (gI (pI s v0 0 (gI s v1 0)) v1 1)) v0 2 (gI (pI (pI s v0 0 (gI s v1 0)) v0 1 (gI (pI s v0 0 (gI s v1 0)) v1 1)) v1 2)) v1 3)) v0 4 (gI (pI (pI (pI (pI s v0 0 (gI s v1 0)) v0 1 (gI (pI s v0 0 (gI s v1 0)) v1 1)) v0 2 (gI (pI (pI s v0 0 (gI s v1 0)) v0 1 (gI (pI s v0 0 (gI s v1 0)) v1 1)) v1 2)) v0 3 (gI (pI (pI (pI s v0 0 (gI s v1 0)) v0 1 (gI (pI s v0 0 (gI s v1 0)) v1 1)) v0 2 (gI (pI (pI s v0 0 (gI s v1 0)) v0 1 (gI (pI s v0 0 (gI s v1 0)) v1 1)) v1 2)) v1 3)) v1 4)) v0 5 (gI (pI (pI (pI (pI (pI s v0 0 (gI s v1 0)) v0 1 (gI (pI s v0 0 (gI s v1 0)) v1 1)) v0 2 (gI (pI (pI s v0 0 (gI s v1 0)) v0 1 (gI (pI s v0 0 (gI s v1 0)) v1 1)) v1 2)) v0 3 (gI (pI (pI (pI s v0 0 (gI s v1 0)) v0 1 (gI (pI s v0 0 (gI s v1 0)) v1 1)) v0 2 (gI (pI (pI s v0 0 (gI s v1 0)) v0 1 (gI (pI s v0 0 (gI s v1 0)) v1 1)) v1 2)) v1 3)) v0 4 (gI (pI (pI (pI (pI s v0 0 (gI s v1 0)) v0 1 (gI (pI s v0 0 (gI s v1 0)) v1 1)) v0 2 (gI (pI (pI s v0 0 (gI s v1 0)) v0 1 (gI (pI s v0 0 (gI s v1 0)) v1 1)) v1 2)) v0 3 (gI (pI (pI (pI s v0 0 (gI s v1 0)) v0 1 (gI (pI s v0 0 (gI s v1 0)) v1 1)) v0 2 (gI (pI (pI s v0 0 (gI s v1 0)) v0 1 (gI (pI s v0 0 (gI s v1 0)) v1 1)) v1 2)) v1 3)) v1 4)) v1 5)) v1 6)) v1 7)) v1 8)) v0 9 (gI (pI (pI (pL (pI (pI (pI (pI (pI (pI s v0 0 (gI s v1 0)) v0 1 (gI (pI s v0 0 (gI s v1 0)) v1 1)) v0 2 (gI (pI (pI s v0 0 (gI s v1 0)) v0 1 (gI (pI s v0 0 (gI s v1 0)) v1 1)) v1 2)) v0 3 (gI (pI (pI (pI s v0 0 (gI s v1 0)) v0 1 (gI (pI s v0 0 (gI s v1 0)) v1 1)) v0 2 (gI (pI (pI s v0 0 (gI s v1 0)) v0 1 (gI (pI s v0 0 (gI s v1 0)) v1 1)) v1 2)) v1 3)) v0 4 (gI (pI (pI (pI (pI s v0 0 (gI s v1 0)) v0 1 (gI (pI s v0 0 (gI s v1 0)) v1 1)) v0 2 (gI (pI (pI s v0 0 (gI s v1 0)) v0 1 (gI (pI s v0 0 (gI s v1 0)) v1 1)) v1 2)) v0 3 (gI (pI (pI (pI s v0 0 (gI s v1 0)) v0 1 (gI (pI s v0 0 (gI s v1 0)) v1 1)) v0 2 (gI (pI (pI s v0 0 (gI s v1 0)) v0 1 (gI (pI s v0 0 (gI s v1 0)) v1 1)) v1 2)) v1 3)) v1 4)) v0 5 (gI (pI (pI (pI (pI (pI s v0 0 (gI s v1 0)) v0 1 (gI (pI s v0 0 (gI s v1 0)) v1 1)) v0 2 (gI (pI (pI s v0 0 (gI s v1 0)) v0 1 (gI (pI s v0 0 (gI s v1 0)) v1 1)) v1 2)) v0 3 (gI (pI (pI (pI s v0 0 (gI s v1 0)) v0 1 (gI (pI s v0 0 (gI s v1 0)) v1 1)) v0 2 (gI (pI (pI s v0 0 (gI s v1 0)) v0 1 (gI (pI s v0 0 (gI s v1 0)) v1 1)) v1 2)) v1 3)) v0 4 (gI (pI (pI (pI (pI s v0 0 (gI s v1 0)) v0 1 (gI (pI s v0 0 (gI s v1 0)) v1 1)) v0 2 (gI (pI (pI s v0 0 (gI s v1 0)) v0 1 (gI (pI s v0 0 (gI s v1 0)) v1 1)) v1 2)) v0 3 (gI (pI (pI (pI s v0 0 (gI s v1 0)) v0 1 (gI (pI s v0 0 (gI s v1 0)) v1 1)) v0 2 (gI (pI (pI s v0 0 (gI s v1 0)) v0 1 (gI (pI s v0 0 (gI s v1 0)) v1 1)) v1 2)) v1 3)) v1 4)) v1 5)) v0 6 (gL (pI (pI (pI (pI (pI (pI s v0 0 (gI s v1 0)) v0 1 (gI (pI s v0 0 (gI s v1 0)) v1 1)) v0 2 (gI (pI (pI s v0 0 (gI s v1 0)) v0 1 (gI (pI s v0 0 (gI s v1 0)) v1 1)) v1 2)) v0 3 (gI (pI (pI (pI s v0 0 (gI s v1 0)) v0 1 (gI (pI s v0 0 (gI s v1 0)) v1 1)) v0 2 (gI (pI (pI s v0 0 (gI s v1 0)) v0 1 (gI (pI s v0 0 (gI s v1 0)) v1 1)) v1 2)) v1 3)) v0 4 (gI (pI (pI (pI (pI s v0 0 (gI s v1 0)) v0 1 (gI (pI s v0 0 (gI s v1 0)) v1 1)) v0 2 (gI (pI (pI s v0 0 (gI s v1 0)) v0 1 (gI (pI s v0 0 (gI s v1 0)) v1 1)) v1 2)) v0 3 (gI (pI (pI (pI s v0 0 (gI s v1 0)) v0 1 (gI (pI s v0 0 (gI s v1 0)) v1 1)) v0 2 (gI (pI (pI s v0 0 (gI s v1 0)) v0 1 (gI (pI s v0 0 (gI s v1 0)) v1 1)) v1 2)) v1 3)) v1 4)) v0 5 (gI (pI (pI (pI (pI (pI s v0 0 (gI s v1 0)) v0 1 (gI (pI s v0 0 (gI s v1 0)) v1 1)) v0 2 (gI (pI (pI s v0 0 (gI s v1 0)) v0 1 (gI (pI s v0 0 (gI s v1 0)) v1 1)) v1 2)) v0 3 (gI (pI (pI (pI s v0 0 (gI s v1 0)) v0 1 (gI (pI s v0 0 (gI s v1 0)) v1 1)) v0 2 (gI (pI (pI s v0 0 (gI s v1 0)) v0 1 (gI (pI s v0 0 (gI s v1 0)) v1 1)) v1 2)) v1 3)) v0 4 (gI (pI (pI (pI (pI s v0 0 (gI s v1 0)) v0 1 (gI (pI s v0 0 (gI s v1 0)) v1 1)) v0 2 (gI (pI (pI s v0 0 (gI s v1 0)) v0 1 (gI (pI s v0 0 (gI s v1 0)) v1 1)) v1 2)) v0 3 (gI (pI (pI (pI s v0 0 (gI s v1 0)) v0 1 (gI (pI s v0 0 (gI s v1 0)) v1 1)) v0 2 (gI (pI (pI s v0 0 (gI s v1 0)) v0 1 (gI (pI s v0 0 (gI s v1 0)) v1 1)) v1 2)) v1 3)) v1 4)) v1 5)) v1 6)) v0 7 (gI (pL (pI (pI (pI (pI (pI (pI s v0 0 (gI s v1 0)) v0 1 (gI (pI s v0 0 (gI s v1 0)) v1 1)) v0 2 (gI (pI (pI s v0 0 (gI s v1 0)) v0 1 (gI (pI s v0 0 (gI s v1 0)) v1 1)) v1 2)) v0 3 (gI (pI (pI (pI s v0 0 (gI s v1 0)) v0 1 (gI (pI s v0 0 (gI s v1 0)) v1 1)) v0 2 (gI (pI (pI s v0 0 (gI s v1 0)) v0 1 (gI (pI s v0 0 (gI s v1 0)) v1 1)) v1 2)) v1 3)) v0 4 (gI (pI (pI (pI (pI s v0 0 (gI s v1 0)) v0 1 (gI (pI s v0 0 (gI s v1 0)) v1 1)) v0 2 (gI (pI (pI s v0 0 (gI s v1 0)) v0 1 (gI (pI s v0 0 (gI s v1 0)) v1 1)) v1 2)) v0 3 (gI (pI (pI (pI s v0 0 (gI s v1 0)) v0 1 (gI (pI s v0 0 (gI s v1 0)) v1 1)) v0 2 (gI (pI (pI s v0 0 (gI s v1 0)) v0 1 (gI (pI s v0 0 (gI s v1 0)) v1 1)) v1 2)) v1 3)) v1 4)) v0 5 (gI (pI (pI (pI (pI (pI s v0 0 (gI s v1 0)) v0 1 (gI (pI s v0 0 (gI s v1 0)) v1 1)) v0 2 (gI (pI (pI s v0 0 (gI s v1 0)) v0 1 (gI (pI s v0 0 (gI s v1 0)) v1 1)) v1 2)) v0 3 (gI (pI (pI (pI s v0 0 (gI s v1 0)) v0 1 (gI (pI s v0 0 (gI s v1 0)) v1 1)) v0 2 (gI (pI (pI s v0 0 (gI s v1 0)) v0 1 (gI (pI s v0 0 (gI s v1 0)) v1 1)) v1 2)) v1 3)) v0 4 (gI (pI (pI (pI (pI s v0 0 (gI s v1 0)) v0 1 (gI (pI s v0 0 (gI s v1 0)) v1 1)) v0 2 (gI (pI (pI s v0 0 (gI s v1 0)) v0 1 (gI (pI s v0 0 (gI s v1 0)) v1 1)) v1 2)) v0 3 (gI (pI (pI (pI s v0 0 (gI s v1 0)) v0 1 (gI (pI s v0 0 (gI s v1 0)) v1 1)) v0 2 (gI (pI (pI s v0 0 (gI s v1 0)) v0 1 (gI (pI s v0 0 (gI s v1 0)) v1 1)) v1 2)) v1 3)) v1 4)) v1 5)) v0 6 (gL (pI (pI (pI (pI (pI (pI s v0 0 (gI s v1 0)) v0 1 (gI (pI s v0 0 (gI s v1 0)) v1 1)) v0 2 (gI (pI (pI s v0 0 (gI s v1 0)) v0 1 (gI (pI s v0 0 (gI s v1 0)) v1 1)) v1 2)) v0 3 (gI (pI (pI (pI s v0 0 (gI s v1 0)) v0 1 (gI (pI s v0 0 (gI s v1 0)) v1 1)) v0 2 (gI (pI (pI s v0 0 (gI s v1 0)) v0 1 (gI (pI s v0 0 (gI s v1 0)) v1 1)) v1 2)) v1 3)) v0 4 (gI (pI (pI (pI (pI s v0 0 (gI s v1 0)) v0 1 (gI (pI s v0 0 (gI s v1 0)) v1 1)) v0 2 (gI (pI (pI s v0 0 (gI s v1 0)) v0 1 (gI (pI s v0 0 (gI s v1 0)) v1 1)) v1 2)) v0 3 (gI (pI (pI (pI s v0 0 (gI s v1 0)) v0 1 (gI (pI s v0 0 (gI s v1 0)) v1 1)) v0 2 (gI (pI (pI s v0 0 (gI s v1 0)) v0 1 (gI (pI s v0 0 (gI s v1 0)) v1 1)) v1 2)) v1 3)) v1 4)) v0 5 (gI (pI (pI (pI (pI (pI s v0 0 (gI s v1 0)) v0 1 (gI (pI s v0 0 (gI s v1 0)) v1 1)) v0 2 (gI (pI (pI s v0 0 (gI s v1 0)) v0 1 (gI (pI s v0 0 (gI s v1 0)) v1 1)) v1 2)) v0 3 (gI (pI (pI (pI s v0 0 (gI s v1 0)) v0 1 (gI (pI s v0 0 (gI s v1 0)) v1 1)) v0 2 (gI (pI (pI s v0 0 (gI s v1 0)) v0 1 (gI (pI s v0 0 (gI s v1 0)) v1 1)) v1 2)) v1 3)) v0 4 (gI (pI (pI (pI (pI s v0 0 (gI s v1 0)) v0 1 (gI (pI s v0 0 (gI s v1 0)) v1 1)) v0 2 (gI (pI (pI s v0 0 (gI s v1 0)) v0 1 (gI (pI s v0 0 (gI s v1 0)) v1 1)) v1 2)) v0 3 (gI (pI (pI (pI s v0 0 (gI s v1 0)) v0 1 (gI (pI s v0 0 (gI s v1 0)) v1 1)) v0 2 (gI (pI (pI s v0 0 (gI s v1 0)) v0 1 (gI (pI s v0 0 (gI s v1 0)) v1 1)) v1 2)) v1 3)) v1 4)) v1 5)) v1 6)) v1 7)) v0 8 (gI (pI (pL (pI (pI (pI (pI (pI (pI s v0 0 (gI s v1 0)) v0 1 (gI (pI s v0 0 (gI s v1 0)) v1 1)) v0 2 (gI (pI (pI s v0 0 (gI s v1 0)) v0 1 (gI (pI s v0 0 (gI s v1 0)) v1 1)) v1 2)) v0 3 (gI (pI (pI (pI s v0 0 (gI s v1 0)) v0 1 (gI (pI s v0 0 (gI s v1 0)) v1 1)) v0 2 (gI (pI (pI s v0 0 (gI s v1 0)) v0 1 (gI (pI s v0 0 (gI s v1 0)) v1 1)) v1 2)) v1 3)) v0 4 (gI (pI (pI (pI (pI s v0 0 (gI s v1 0)) v0 1 (gI (pI s v0 0 (gI s v1 0)) v1 1)) v0 2 (gI (pI (pI s v0 0 (gI s v1 0)) v0 1 (gI (pI s v0 0 (gI s v1 0)) v1 1)) v1 2)) v0 3 (gI (pI (pI (pI s v0 0 (gI s v1 0)) v0 1 (gI (pI s v0 0 (gI s v1 0)) v1 1)) v0 2 (gI (pI (pI s v0 0 (gI s v1 0)) v0 1 (gI (pI s v0 0 (gI s v1 0)) v1 1)) v1 2)) v1 3)) v1 4)) v0 5 (gI (pI (pI (pI (pI (pI s v0 0 (gI s v1 0)) v0 1 (gI (pI s v0 0 (gI s v1 0)) v1 1)) v0 2 (gI (pI (pI s v0 0 (gI s v1 0)) v0 1 (gI (pI s v0 0 (gI s v1 0)) v1 1)) v1 2)) v0 3 (gI (pI (pI (pI s v0 0 (gI s v1 0)) v0 1 (gI (pI s v0 0 (gI s v1 0)) v1 1)) v0 2 (gI (pI (pI s v0 0 (gI s v1 0)) v0 1 (gI (pI s v0 0 (gI s v1 0)) v1 1)) v1 2)) v1 3)) v0 4 (gI (pI (pI (pI (pI s v0 0 (gI s v1 0)) v0 1 (gI (pI s v0 0 (gI s v1 0)) v1 1)) v0 2 (gI (pI (pI s v0 0 (gI s v1 0)) v0 1 (gI (pI s v0 0 (gI s v1 0)) v1 1)) v1 2)) v0 3 (gI (pI (pI (pI s v0 0 (gI s v1 0)) v0 1 (gI (pI s v0 0 (gI s v1 0)) v1 1)) v0 2 (gI (pI (pI s v0 0 (gI s v1 0)) v0 1 (gI (pI s v0 0 (gI s v1 0)) v1 1)) v1 2)) v1 3)) v1 4)) v1 5)) v0 6 (gL (pI (pI (pI (pI (pI (pI s v0 0 (gI s v1 0)) v0 1 (gI (pI s v0 0 (gI s v1 0)) v1 1)) v0 2 (gI (pI (pI s v0 0 (gI s v1 0)) v0 1 (gI (pI s v0 0 (gI s v1 0)) v1 1)) v1 2)) v0 3 (gI (pI (pI (pI s v0 0 (gI s v1 0)) v0 1 (gI (pI s v0 0 (gI s v1 0)) v1 1)) v0 2 (gI (pI (pI s v0 0 (gI s v1 0)) v0 1 (gI (pI s v0 0 (gI s v1 0)) v1 1)) v1 2)) v1 3)) v0 4 (gI (pI (pI (pI (pI s v0 0 (gI s v1 0)) v0 1 (gI (pI s v0 0 (gI s v1 0)) v1 1)) v0 2 (gI (pI (pI s v0 0 (gI s v1 0)) v0 1 (gI (pI s v0 0 (gI s v1 0)) v1 1)) v1 2)) v0 3 (gI (pI (pI (pI s v0 0 (gI s v1 0)) v0 1 (gI (pI s v0 0 (gI s v1 0)) v1 1)) v0 2 (gI (pI (pI s v0 0 (gI s v1 0)) v0 1 (gI (pI s v0 0 (gI s v1 0)) v1 1)) v1 2)) v1 3)) v1 4)) v0 5 (gI (pI (pI (pI (pI (pI s v0 0 (gI s v1 0)) v0 1 (gI (pI s v0 0 (gI s v1 0)) v1 1)) v0 2 (gI (pI (pI s v0 0 (gI s v1 0)) v0 1 (gI (pI s v0 0 (gI s v1 0)) v1 1)) v1 2)) v0 3 (gI (pI (pI (pI s v0 0 (gI s v1 0)) v0 1 (gI (pI s v0 0 (gI s v1 0)) v1 1)) v0 2 (gI (pI (pI s v0 0 (gI s v1 0)) v0 1 (gI (pI s v0 0 (gI s v1 0)) v1 1)) v1 2)) v1 3)) v0 4 (gI (pI (pI (pI (pI s v0 0 (gI s v1 0)) v0 1 (gI (pI s v0 0 (gI s v1 0)) v1 1)) v0 2 (gI (pI (pI s v0 0 (gI s v1 0)) v0 1 (gI (pI s v0 0 (gI s v1 0)) v1 1)) v1 2)) v0 3 (gI (pI (pI (pI s v0 0 (gI s v1 0)) v0 1 (gI (pI s v0 0 (gI s v1 0)) v1 1)) v0 2 (gI (pI (pI s v0 0 (gI s v1 0)) v0 1 (gI (pI s v0 0 (gI s v1 0)) v1 1)) v1 2)) v1 3)) v1 4)) v1 5)) v1 6)) v0 7 (gI (pL (pI (pI (pI (pI (pI (pI s v0 0 (gI s v1 0)) v0 1 (gI (pI s v0 0 (gI s v1 0)) v1 1)) v0 2 (gI (pI (pI s v0 0 (gI s v1 0)) v0 1 (gI (pI s v0 0 (gI s v1 0)) v1 1)) v1 2)) v0 3 (gI (pI (pI (pI s v0 0 (gI s v1 0)) v0 1 (gI (pI s v0 0 (gI s v1 0)) v1 1)) v0 2 (gI (pI (pI s v0 0 (gI s v1 0)) v0 1 (gI (pI s v0 0 (gI s v1 0)) v1 1)) v1 2)) v1 3)) v0 4 (gI (pI (pI (pI (pI s v0 0 (gI s v1 0)) v0 1 (gI (pI s v0 0 (gI s v1 0)) v1 1)) v0 2 (gI (pI (pI s v0 0 (gI s v1 0)) v0 1 (gI (pI s v0 0 (gI s v1 0)) v1 1)) v1 2)) v0 3 (gI (pI (pI (pI s v0 0 (gI s v1 0)) v0 1 (gI (pI s v0 0 (gI s v1 0)) v1 1)) v0 2 (gI (pI (pI s v0 0 (gI s v1 0)) v0 1 (gI (pI s v0 0 (gI s v1 0)) v1 1)) v1 2)) v1 3)) v1 4)) v0 5 (gI (pI (pI (pI (pI (pI s v0 0 (gI s v1 0)) v0 1 (gI (pI s v0 0 (gI s v1 0)) v1 1)) v0 2 (gI (pI (pI s v0 0 (gI s v1 0)) v0 1 (gI (pI s v0 0 (gI s v1 0)) v1 1)) v1 2)) v0 3 (gI (pI (pI (pI s v0 0 (gI s v1 0)) v0 1 (gI (pI s v0 0 (gI s v1 0)) v1 1)) v0 2 (gI (pI (pI s v0 0 (gI s v1 0)) v0 1 (gI (pI s v0 0 (gI s v1 0)) v1 1)) v1 2)) v1 3)) v0 4 (gI (pI (pI (pI (pI s v0 0 (gI s v1 0)) v0 1 (gI (pI s v0 0 (gI s v1 0)) v1 1)) v0 2 (gI (pI (pI s v0 0 (gI s v1 0)) v0 1 (gI (pI s v0 0 (gI s v1 0)) v1 1)) v1 2)) v0 3 (gI (pI (pI (pI s v0 0 (gI s v1 0)) v0 1 (gI (pI s v0 0 (gI s v1 0)) v1 1)) v0 2 (gI (pI (pI s v0 0 (gI s v1 0)) v0 1 (gI (pI s v0 0 (gI s v1 0)) v1 1)) v1 2)) v1 3)) v1 4)) v1 5)) v0 6 (gL (pI (pI (pI (pI (pI (pI s v0 0 (gI s v1 0)) v0 1 (gI (pI s v0 0 (gI s v1 0)) v1 1)) v0 2 (gI (pI (pI s v0 0 (gI s v1 0)) v0 1 (gI (pI s v0 0 (gI s v1 0)) v1 1)) v1 2)) v0 3 (gI (pI (pI (pI s v0 0 (gI s v1 0)) v0 1 (gI (pI s v0 0 (gI s v1 0)) v1 1)) v0 2 (gI (pI (pI s v0 0 (gI s v1 0)) v0 1 (gI (pI s v0 0 (gI s v1 0)) v1 1)) v1 2)) v1 3)) v0 4 (gI (pI (pI (pI (pI s v0 0 (gI s v1 0)) v0 1 (gI (pI s v0 0 (gI s v1 0)) v1 1)) v0 2 (gI (pI (pI s v0 0 (gI s v1 0)) v0 1 (gI (pI s v0 0 (gI s v1 0)) v1 1)) v1 2)) v0 3 (gI (pI (pI (pI s v0 0 (gI s v1 0)) v0 1 (gI (pI s v0 0 (gI s v1 0)) v1 1)) v0 2 (gI (pI (pI s v0 0 (gI s v1 0)) v0 1 (gI (pI s v0 0 (gI s v1 0)) v1 1)) v1 2)) v1 3)) v1 4)) v0 5 (gI (pI (pI (pI (pI (pI s v0 0 (gI s v1 0)) v0 1 (gI (pI s v0 0 (gI s v1 0)) v1 1)) v0 2 (gI (pI (pI s v0 0 (gI s v1 0)) v0 1 (gI (pI s v0 0 (gI s v1 0)) v1 1)) v1 2)) v0 3 (gI (pI (pI (pI s v0 0 (gI s v1 0)) v0 1 (gI (pI s v0 0 (gI s v1 0)) v1 1)) v0 2 (gI (pI (pI s v0 0 (gI s v1 0)) v0 1 (gI (pI s v0 0 (gI s v1 0)) v1 1)) v1 2)) v1 3)) v0 4 (gI (pI (pI (pI (pI s v0 0 (gI s v1 0)) v0 1 (gI (pI s v0 0 (gI s v1 0)) v1 1)) v0 2 (gI (pI (pI s v0 0 (gI s v1 0)) v0 1 (gI (pI s v0 0 (gI s v1 0)) v1 1)) v1 2)) v0 3 (gI (pI (pI (pI s v0 0 (gI s v1 0)) v0 1 (gI (pI s v0 0 (gI s v1 0)) v1 1)) v0 2 (gI (pI (pI s v0 0 (gI s v1 0)) v0 1 (gI (pI s v0 0 (gI s v1 0)) v1 1)) v1 2)) v1 3)) v1 4)) v1 5)) v1 6)) v1 7)) v1 8)) v1 9)) v1 10) = 0 ∨ (gI (pI (pI (pI (pL (pI (pI (pI (pI (pI (pI s v0 0 (gI s v1 0)) v0 1 (gI (pI s v0 0 (gI s v1 0)) v1 1)) v0 2 (gI (pI (pI s v0 0 (gI s v1 0)) v0 1 (gI (pI s v0 0 (gI s v1 0)) v1 1)) v1 2)) v0 3 (gI (pI (pI (pI s v0 0 (gI s v1 0)) v0 1 (gI (pI s v0 0 (gI s v1 0)) v1 1)) v0 2 (gI (pI (pI s v0 0 (gI s v1 0)) v0 1 (gI (pI s v0 0 (gI s v1 0)) v1 1)) v1 2)) v1 3)) v0 4 (gI (pI (pI (pI (pI s v0 0 (gI s v1 0)) v0 1 (gI (pI s v0 0 (gI s v1 0)) v1 1)) v0 2 (gI (pI (pI s v0 0 (gI s v1 0)) v0 1 (gI (pI s v0 0 (gI s v1 0)) v1 1)) v1 2)) v0 3 (gI (pI (pI (pI s v0 0 (gI s v1 0)) v0 1 (gI (pI s v0 0 (gI s v1 0)) v1 1)) v0 2 (gI (pI (pI s v0 0 (gI s v1 0)) v0 1 (gI (pI s v0 0 (gI s v1 0)) v1 1)) v1 2)) v1 3)) v1 4)) v0 5 (gI (pI (pI (pI (pI (pI s v0 0 (gI s v1 0)) v0 1 (gI (pI s v0 0 (gI s v1 0)) v1 1)) v0 2 (gI (pI (pI s v0 0 (gI s v1 0)) v0 1 (gI (pI s v0 0 (gI s v1 0)) v1 1)) v1 2)) v0 3 (gI (pI (pI (pI s v0 0 (gI s v1 0)) v0 1 (gI (pI s v0 0 (gI s v1 0)) v1 1)) v0 2 (gI (pI (pI s v0 0 (gI s v1 0)) v0 1 (gI (pI s v0 0 (gI s v1 0)) v1 1)) v1 2)) v1 3)) v0 4 (gI (pI (pI (pI (pI s v0 0 (gI s v1 0)) v0 1 (gI (pI s v0 0 (gI s v1 0)) v1 1)) v0 2 (gI (pI (pI s v0 0 (gI s v1 0)) v0 1 (gI (pI s v0 0 (gI s v1 0)) v1 1)) v1 2)) v0 3 (gI (pI (pI (pI s v0 0 (gI s v1 0)) v0 1 (gI (pI s v0 0 (gI s v1 0)) v1 1)) v0 2 (gI (pI (pI s v0 0 (gI s v1 0)) v0 1 (gI (pI s v0 0 (gI s v1 0)) v1 1)) v1 2)) v1 3)) v1 4)) v1 5)) v0 6 (gL (pI (pI (pI (pI (pI (pI s v0 0 (gI s v1 0)) v0 1 (gI (pI s v0 0 (gI s v1 0)) v1 1)) v0 2 (gI (pI (pI s v0 0 (gI s v1 0)) v0 1 (gI (pI s v0 0 (gI s v1 0)) v1 1)) v1 2)) v0 3 (gI (pI (pI (pI s v0 0 (gI s v1 0)) v0 1 (gI (pI s v0 0 (gI s v1 0)) v1 1)) v0 2 (gI (pI (pI s v0 0 (gI s v1 0)) v0 1 (gI (pI s v0 0 (gI s v1 0)) v1 1)) v1 2)) v1 3)) v0 4 (gI (pI (pI (pI (pI s v0 0 (gI s v1 0)) v0 1 (gI (pI s v0 0 (gI s v1 0)) v1 1)) v0 2 (gI (pI (pI s v0 0 (gI s v1 0)) v0 1 (gI (pI s v0 0 (gI s v1 0)) v1 1)) v1 2)) v0 3 (gI (pI (pI (pI s v0 0 (gI s v1 0)) v0 1 (gI (pI s v0 0 (gI s v1 0)) v1 1)) v0 2 (gI (pI (pI s v0 0 (gI s v1 0)) v0 1 (gI (pI s v0 0 (gI s v1 0)) v1 1)) v1 2)) v1 3)) v1 4)) v0 5 (gI (pI (pI (pI (pI (pI s v0 0 (gI s v1 0)) v0 1 (gI (pI s v0 0 (gI s v1 0)) v1 1)) v0 2 (gI (pI (pI s v0 0 (gI s v1 0)) v0 1 (gI (pI s v0 0 (gI s v1 0)) v1 1)) v1 2)) v0 3 (gI (pI (pI (pI s v0 0 (gI s v1 0)) v0 1 (gI (pI s v0 0 (gI s v1 0)) v1 1)) v0 2 (gI (pI (pI s v0 0 (gI s v1 0)) v0 1 (gI (pI s v0 0 (gI s v1 0)) v1 1)) v1 2)) v1 3)) v0 4 (gI (pI (pI (pI (pI s v0 0 (gI s v1 0)) v0 1 (gI (pI s v0 0 (gI s v1 0)) v1 1)) v0 2 (gI (pI (pI s v0 0 (gI s v1 0)) v0 1 (gI (pI s v0 0 (gI s v1 0)) v1 1)) v1 2)) v0 3 (gI (pI (pI (pI s v0 0 (gI s v1 0)) v0 1 (gI (pI s v0 0 (gI s v1 0)) v1 1)) v0 2 (gI (pI (pI s v0 0 (gI s v1 0)) v0 1 (gI (pI s v0 0 (gI s v1 0)) v1 1)) v1 2)) v1 3)) v1 4)) v1 5)) v1 6)) v0 7 (gI (pL (pI (pI (pI (pI (pI (pI s v0 0 (gI s v1 0)) v0 1 (gI (pI s v0 0 (gI s v1 0)) v1 1)) v0 2 (gI (pI (pI s v0 0 (gI s v1 0)) v0 1 (gI (pI s v0 0 (gI s v1 0)) v1 1)) v1 2)) v0 3 (gI (pI (pI (pI s v0 0 (gI s v1 0)) v0 1 (gI (pI s v0 0 (gI s v1 0)) v1 1)) v0 2 (gI (pI (pI s v0 0 (gI s v1 0)) v0 1 (gI (pI s v0 0 (gI s v1 0)) v1 1)) v1 2)) v1 3)) v0 4 (gI (pI (pI (pI (pI s v0 0 (gI s v1 0)) v0 1 (gI (pI s v0 0 (gI s v1 0)) v1 1)) v0 2 (gI (pI (pI s v0 0 (gI s v1 0)) v0 1 (gI (pI s v0 0 (gI s v1 0)) v1 1)) v1 2)) v0 3 (gI (pI (pI (pI s v0 0 (gI s v1 0)) v0 1 (gI (pI s v0 0 (gI s v1 0)) v1 1)) v0 2 (gI (pI (pI s v0 0 (gI s v1 0)) v0 1 (gI (pI s v0 0 (gI s v1 0)) v1 1)) v1 2)) v1 3)) v1 4)) v0 5 (gI (pI (pI (pI (pI (pI s v0 0 (gI s v1 0)) v0 1 (gI (pI s v0 0 (gI s v1 0)) v1 1)) v0 2 (gI (pI (pI s v0 0 (gI s v1 0)) v0 1 (gI (pI s v0 0 (gI s v1 0)) v1 1)) v1 2)) v0 3 (gI (pI (pI (pI s v0 0 (gI s v1 0)) v0 1 (gI (pI s v0 0 (gI s v1 0)) v1 1)) v0 2 (gI (pI (pI s v0 0 (gI s v1 0)) v0 1 (gI (pI s v0 0 (gI s v1 0)) v1 1)) v1 2)) v1 3)) v0 4 (gI (pI (pI (pI (pI s v0 0 (gI s v1 0)) v0 1 (gI (pI s v0 0 (gI s v1 0)) v1 1)) v0 2 (gI (pI (pI s v0 0 (gI s v1 0)) v0 1 (gI (pI s v0 0 (gI s v1 0)) v1 1)) v1 2)) v0 3 (gI (pI (pI (pI s v0 0 (gI s v1 0)) v0 1 (gI (pI s v0 0 (gI s v1 0)) v1 1)) v0 2 (gI (pI (pI s v0 0 (gI s v1 0)) v0 1 (gI (pI s v0 0 (gI s v1 0)) v1 1)) v1 2)) v1 3)) v1 4)) v1 5)) v0 6 (gL (pI (pI (pI (pI (pI (pI s v0 0 (gI s v1 0)) v0 1 (gI (pI s v0 0 (gI s v1 0)) v1 1)) v0 2 (gI (pI (pI s v0 0 (gI s v1 0)) v0 1 (gI (pI s v0 0 (gI s v1 0)) v1 1)) v1 2)) v0 3 (gI (pI (pI (pI s v0 0 (gI s v1 0)) v0 1 (gI (pI s v0 0 (gI s v1 0)) v1 1)) v0 2 (gI (pI (pI s v0 0 (gI s v1 0)) v0 1 (gI (pI s v0 0 (gI s v1 0)) v1 1)) v1 2)) v1 3)) v0 4 (gI (pI (pI (pI (pI s v0 0 (gI s v1 0)) v0 1 (gI (pI s v0 0 (gI s v1 0)) v1 1)) v0 2 (gI (pI (pI s v0 0 (gI s v1 0)) v0 1 (gI (pI s v0 0 (gI s v1 0)) v1 1)) v1 2)) v0 3 (gI (pI (pI (pI s v0 0 (gI s v1 0)) v0 1 (gI (pI s v0 0 (gI s v1 0)) v1 1)) v0 2 (gI (pI (pI s v0 0 (gI s v1 0)) v0 1 (gI (pI s v0 0 (gI s v1 0)) v1 1)) v1 2)) v1 3)) v1 4)) v0 5 (gI (pI (pI (pI (pI (pI s v0 0 (gI s v1 0)) v0 1 (gI (pI s v0 0 (gI s v1 0)) v1 1)) v0 2 (gI (pI (pI s v0 0 (gI s v1 0)) v0 1 (gI (pI s v0 0 (gI s v1 0)) v1 1)) v1 2)) v0 3 (gI (pI (pI (pI s v0 0 (gI s v1 0)) v0 1 (gI (pI s v0 0 (gI s v1 0)) v1 1)) v0 2 (gI (pI (pI s v0 0 (gI s v1 0)) v0 1 (gI (pI s v0 0 (gI s v1 0)) v1 1)) v1 2)) v1 3)) v0 4 (gI (pI (pI (pI (pI s v0 0 (gI s v1 0)) v0 1 (gI (pI s v0 0 (gI s v1 0)) v1 1)) v0 2 (gI (pI (pI s v0 0 (gI s v1 0)) v0 1 (gI (pI s v0 0 (gI s v1 0)) v1 1)) v1 2)) v0 3 (gI (pI (pI (pI s v0 0 (gI s v1 0)) v0 1 (gI (pI s v0 0 (gI s v1 0)) v1 1)) v0 2 (gI (pI (pI s v0 0 (gI s v1 0)) v0 1 (gI (pI s v0 0 (gI s v1 0)) v1 1)) v1 2)) v1 3)) v1 4)) v1 5)) v1 6)) v1 7)) v0 8 (gI (pI (pL (pI (pI (pI (pI (pI (pI s v0 0 (gI s v1 0)) v0 1 (gI (pI s v0 0 (gI s v1 0)) v1 1)) v0 2 (gI (pI (pI s v0 0 (gI s v1 0)) v0 1 (gI (pI s v0 0 (gI s v1 0)) v1 1)) v1 2)) v0 3 (gI (pI (pI (pI s v0 0 (gI s v1 0)) v0 1 (gI (pI s v0 0 (gI s v1 0)) v1 1)) v0 2 (gI (pI (pI s v0 0 (gI s v1 0)) v0 1 (gI (pI s v0 0 (gI s v1 0)) v1 1)) v1 2)) v1 3)) v0 4 (gI (pI (pI (pI (pI s v0 0 (gI s v1 0)) v0 1 (gI (pI s v0 0 (gI s v1 0)) v1 1)) v0 2 (gI (pI (pI s v0 0 (gI s v1 0)) v0 1 (gI (pI s v0 0 (gI s v1 0)) v1 1)) v1 2)) v0 3 (gI (pI (pI (pI s v0 0 (gI s v1 0)) v0 1 (gI (pI s v0 0 (gI s v1 0)) v1 1)) v0 2 (gI (pI (pI s v0 0 (gI s v1 0)) v0 1 (gI (pI s v0 0 (gI s v1 0)) v1 1)) v1 2)) v1 3)) v1 4)) v0 5 (gI (pI (pI (pI (pI (pI s v0 0 (gI s v1 0)) v0 1 (gI (pI s v0 0 (gI s v1 0)) v1 1)) v0 2 (gI (pI (pI s v0 0 (gI s v1 0)) v0 1 (gI (pI s v0 0 (gI s v1 0)) v1 1)) v1 2)) v0 3 (gI (pI (pI (pI s v0 0 (gI s v1 0)) v0 1 (gI (pI s v0 0 (gI s v1 0)) v1 1)) v0 2 (gI (pI (pI s v0 0 (gI s v1 0)) v0 1 (gI (pI s v0 0 (gI s v1 0)) v1 1)) v1 2)) v1 3)) v0 4 (gI (pI (pI (pI (pI s v0 0 (gI s v1 0)) v0 1 (gI (pI s v0 0 (gI s v1 0)) v1 1)) v0 2 (gI (pI (pI s v0 0 (gI s v1 0)) v0 1 (gI (pI s v0 0 (gI s v1 0)) v1 1)) v1 2)) v0 3 (gI (pI (pI (pI s v0 0 (gI s v1 0)) v0 1 (gI (pI s v0 0 (gI s v1 0)) v1 1)) v0 2 (gI (pI (pI s v0 0 (gI s v1 0)) v0 1 (gI (pI s v0 0 (gI s v1 0)) v1 1)) v1 2)) v1 3)) v1 4)) v1 5)) v0 6 (gL (pI (pI (pI (pI (pI (pI s v0 0 (gI s v1 0)) v0 1 (gI (pI s v0 0 (gI s v1 0)) v1 1)) v0 2 (gI (pI (pI s v0 0 (gI s v1 0)) v0 1 (gI (pI s v0 0 (gI s v1 0)) v1 1)) v1 2)) v0 3 (gI (pI (pI (pI s v0 0 (gI s v1 0)) v0 1 (gI (pI s v0 0 (gI s v1 0)) v1 1)) v0 2 (gI (pI (pI s v0 0 (gI s v1 0)) v0 1 (gI (pI s v0 0 (gI s v1 0)) v1 1)) v1 2)) v1 3)) v0 4 (gI (pI (pI (pI (pI s v0 0 (gI s v1 0)) v0 1 (gI (pI s v0 0 (gI s v1 0)) v1 1)) v0 2 (gI (pI (pI s v0 0 (gI s v1 0)) v0 1 (gI (pI s v0 0 (gI s v1 0)) v1 1)) v1 2)) v0 3 (gI (pI (pI (pI s v0 0 (gI s v1 0)) v0 1 (gI (pI s v0 0 (gI s v1 0)) v1 1)) v0 2 (gI (pI (pI s v0 0 (gI s v1 0)) v0 1 (gI (pI s v0 0 (gI s v1 0)) v1 1)) v1 2)) v1 3)) v1 4)) v0 5 (gI (pI (pI (pI (pI (pI s v0 0 (gI s v1 0)) v0 1 (gI (pI s v0 0 (gI s v1 0)) v1 1)) v0 2 (gI (pI (pI s v0 0 (gI s v1 0)) v0 1 (gI (pI s v0 0 (gI s v1 0)) v1 1)) v1 2)) v0 3 (gI (pI (pI (pI s v0 0 (gI s v1 0)) v0 1 (gI (pI s v0 0 (gI s v1 0)) v1 1)) v0 2 (gI (pI (pI s v0 0 (gI s v1 0)) v0 1 (gI (pI s v0 0 (gI s v1 0)) v1 1)) v1 2)) v1 3)) v0 4 (gI (pI (pI (pI (pI s v0 0 (gI s v1 0)) v0 1 (gI (pI s v0 0 (gI s v1 0)) v1 1)) v0 2 (gI (pI (pI s v0 0 (gI s v1 0)) v0 1 (gI (pI s v0 0 (gI s v1 0)) v1 1)) v1 2)) v0 3 (gI (pI (pI (pI s v0 0 (gI s v1 0)) v0 1 (gI (pI s v0 0 (gI s v1 0)) v1 1)) v0 2 (gI (pI (pI s v0 0 (gI s v1 0)) v0 1 (gI (pI s v0 0 (gI s v1 0)) v1 1)) v1 2)) v1 3)) v1 4)) v1 5)) v1 6)) v0 7 (gI (pL (pI (pI (pI (pI (pI (pI s v0 0 (gI s v1 0)) v0 1 (gI (pI s v0 0 (gI s v1 0)) v1 1)) v0 2 (gI (pI (pI s v0 0 (gI s v1 0)) v0 1 (gI (pI s v0 0 (gI s v1 0)) v1 1)) v1 2)) v0 3 (gI (pI (pI (pI s v0 0 (gI s v1 0)) v0 1 (gI (pI s v0 0 (gI s v1 0)) v1 1)) v0 2 (gI (pI (pI s v0 0 (gI s v1 0)) v0 1 (gI (pI s v0 0 (gI s v1 0)) v1 1)) v1 2)) v1 3)) v0 4 (gI (pI (pI (pI (pI s v0 0 (gI s v1 0)) v0 1 (gI (pI s v0 0 (gI s v1 0)) v1 1)) v0 2 (gI (pI (pI s v0 0 (gI s v1 0)) v0 1 (gI (pI s v0 0 (gI s v1 0)) v1 1)) v1 2)) v0 3 (gI (pI (pI (pI s v0 0 (gI s v1 0)) v0 1 (gI (pI s v0 0 (gI s v1 0)) v1 1)) v0 2 (gI (pI (pI s v0 0 (gI s v1 0)) v0 1 (gI (pI s v0 0 (gI s v1 0)) v1 1)) v1 2)) v1 3)) v1 4)) v0 5 (gI (pI (pI (pI (pI (pI s v0 0 (gI s v1 0)) v0 1 (gI (pI s v0 0 (gI s v1 0)) v1 1)) v0 2 (gI (pI (pI s v0 0 (gI s v1 0)) v0 1 (gI (pI s v0 0 (gI s v1 0)) v1 1)) v1 2)) v0 3 (gI (pI (pI (pI s v0 0 (gI s v1 0)) v0 1 (gI (pI s v0 0 (gI s v1 0)) v1 1)) v0 2 (gI (pI (pI s v0 0 (gI s v1 0)) v0 1 (gI (pI s v0 0 (gI s v1 0)) v1 1)) v1 2)) v1 3)) v0 4 (gI (pI (pI (pI (pI s v0 0 (gI s v1 0)) v0 1 (gI (pI s v0 0 (gI s v1 0)) v1 1)) v0 2 (gI (pI (pI s v0 0 (gI s v1 0)) v0 1 (gI (pI s v0 0 (gI s v1 0)) v1 1)) v1 2)) v0 3 (gI (pI (pI (pI s v0 0 (gI s v1 0)) v0 1 (gI (pI s v0 0 (gI s v1 0)) v1 1)) v0 2 (gI (pI (pI s v0 0 (gI s v1 0)) v0 1 (gI (pI s v0 0 (gI s v1 0)) v1 1)) v1 2)) v1 3)) v1 4)) v1 5)) v0 6 (gL (pI (pI (pI (pI (pI (pI s v0 0 (gI s v1 0)) v0 1 (gI (pI s v0 0 (gI s v1 0)) v1 1)) v0 2 (gI (pI (pI s v0 0 (gI s v1 0)) v0 1 (gI (pI s v0 0 (gI s v1 0)) v1 1)) v1 2)) v0 3 (gI (pI (pI (pI s v0 0 (gI s v1 0)) v0 1 (gI (pI s v0 0 (gI s v1 0)) v1 1)) v0 2 (gI (pI (pI s v0 0 (gI s v1 0)) v0 1 (gI (pI s v0 0 (gI s v1 0)) v1 1)) v1 2)) v1 3)) v0 4 (gI (pI (pI (pI (pI s v0 0 (gI s v1 0)) v0 1 (gI (pI s v0 0 (gI s v1 0)) v1 1)) v0 2 (gI (pI (pI s v0 0 (gI s v1 0)) v0 1 (gI (pI s v0 0 (gI s v1 0)) v1 1)) v1 2)) v0 3 (gI (pI (pI (pI s v0 0 (gI s v1 0)) v0 1 (gI (pI s v0 0 (gI s v1 0)) v1 1)) v0 2 (gI (pI (pI s v0 0 (gI s v1 0)) v0 1 (gI (pI s v0 0 (gI s v1 0)) v1 1)) v1 2)) v1 3)) v1 4)) v0 5 (gI (pI (pI (pI (pI (pI s v0 0 (gI s v1 0)) v0 1 (gI (pI s v0 0 (gI s v1 0)) v1 1)) v0 2 (gI (pI (pI s v0 0 (gI s v1 0)) v0 1 (gI (pI s v0 0 (gI s v1 0)) v1 1)) v1 2)) v0 3 (gI (pI (pI (pI s v0 0 (gI s v1 0)) v0 1 (gI (pI s v0 0 (gI s v1 0)) v1 1)) v0 2 (gI (pI (pI s v0 0 (gI s v1 0)) v0 1 (gI (pI s v0 0 (gI s v1 0)) v1 1)) v1 2)) v1 3)) v0 4 (gI (pI (pI (pI (pI s v0 0 (gI s v1 0)) v0 1 (gI (pI s v0 0 (gI s v1 0)) v1 1)) v0 2 (gI (pI (pI s v0 0 (gI s v1 0)) v0 1 (gI (pI s v0 0 (gI s v1 0)) v1 1)) v1 2)) v0 3 (gI (pI (pI (pI s v0 0 (gI s v1 0)) v0 1 (gI (pI s v0 0 (gI s v1 0)) v1 1)) v0 2 (gI (pI (pI s v0 0 (gI s v1 0)) v0 1 (gI (pI s v0 0 (gI s v1 0)) v1 1)) v1 2)) v1 3)) v1 4)) v1 5)) v1 6)) v1 7)) v1 8)) v0 9 (gI (pI (pI (pL (pI (pI (pI (pI (pI (pI s v0 0 (gI s v1 0)) v0 1 (gI (pI s v0 0 (gI s v1 0)) v1 1)) v0 2 (gI (pI (pI s v0 0 (gI s v1 0)) v0 1 (gI (pI s v0 0 (gI s v1 0)) v1 1)) v1 2)) v0 3 (gI (pI (pI (pI s v0 0 (gI s v1 0)) v0 1 (gI (pI s v0 0 (gI s v1 0)) v1 1)) v0 2 (gI (pI (pI s v0 0 (gI s v1 0)) v0 1 (gI (pI s v0 0 (gI s v1 0)) v1 1)) v1 2)) v1 3)) v0 4 (gI (pI (pI (pI (pI s v0 0 (gI s v1 0)) v0 1 (gI (pI s v0 0 (gI s v1 0)) v1 1)) v0 2 (gI (pI (pI s v0 0 (gI s v1 0)) v0 1 (gI (pI s v0 0 (gI s v1 0)) v1 1)) v1 2)) v0 3 (gI (pI (pI (pI s v0 0 (gI s v1 0)) v0 1 (gI (pI s v0 0 (gI s v1 0)) v1 1)) v0 2 (gI (pI (pI s v0 0 (gI s v1 0)) v0 1 (gI (pI s v0 0 (gI s v1 0)) v1 1)) v1 2)) v1 3)) v1 4)) v0 5 (gI (pI (pI (pI (pI (pI s v0 0 (gI s v1 0)) v0 1 (gI (pI s v0 0 (gI s v1 0)) v1 1)) v0 2 (gI (pI (pI s v0 0 (gI s v1 0)) v0 1 (gI (pI s v0 0 (gI s v1 0)) v1 1)) v1 2)) v0 3 (gI (pI (pI (pI s v0 0 (gI s v1 0)) v0 1 (gI (pI s v0 0 (gI s v1 0)) v1 1)) v0 2 (gI (pI (pI s v0 0 (gI s v1 0)) v0 1 (gI (pI s v0 0 (gI s v1 0)) v1 1)) v1 2)) v1 3)) v0 4 (gI (pI (pI (pI (pI s v0 0 (gI s v1 0)) v0 1 (gI (pI s v0 0 (gI s v1 0)) v1 1)) v0 2 (gI (pI (pI s v0 0 (gI s v1 0)) v0 1 (gI (pI s v0 0 (gI s v1 0)) v1 1)) v1 2)) v0 3 (gI (pI (pI (pI s v0 0 (gI s v1 0)) v0 1 (gI (pI s v0 0 (gI s v1 0)) v1 1)) v0 2 (gI (pI (pI s v0 0 (gI s v1 0)) v0 1 (gI (pI s v0 0 (gI s v1 0)) v1 1)) v1 2)) v1 3)) v1 4)) v1 5)) v0 6 (gL (pI (pI (pI (pI (pI (pI s v0 0 (gI s v1 0)) v0 1 (gI (pI s v0 0 (gI s v1 0)) v1 1)) v0 2 (gI (pI (pI s v0 0 (gI s v1 0)) v0 1 (gI (pI s v0 0 (gI s v1 0)) v1 1)) v1 2)) v0 3 (gI (pI (pI (pI s v0 0 (gI s v1 0)) v0 1 (gI (pI s v0 0 (gI s v1 0)) v1 1)) v0 2 (gI (pI (pI s v0 0 (gI s v1 0)) v0 1 (gI (pI s v0 0 (gI s v1 0)) v1 1)) v1 2)) v1 3)) v0 4 (gI (pI (pI (pI (pI s v0 0 (gI s v1 0)) v0 1 (gI (pI s v0 0 (gI s v1 0)) v1 1)) v0 2 (gI (pI (pI s v0 0 (gI s v1 0)) v0 1 (gI (pI s v0 0 (gI s v1 0)) v1 1)) v1 2)) v0 3 (gI (pI (pI (pI s v0 0 (gI s v1 0)) v0 1 (gI (pI s v0 0 (gI s v1 0)) v1 1)) v0 2 (gI (pI (pI s v0 0 (gI s v1 0)) v0 1 (gI (pI s v0 0 (gI s v1 0)) v1 1)) v1 2)) v1 3)) v1 4)) v0 5 (gI (pI (pI (pI (pI (pI s v0 0 (gI s v1 0)) v0 1 (gI (pI s v0 0 (gI s v1 0)) v1 1)) v0 2 (gI (pI (pI s v0 0 (gI s v1 0)) v0 1 (gI (pI s v0 0 (gI s v1 0)) v1 1)) v1 2)) v0 3 (gI (pI (pI (pI s v0 0 (gI s v1 0)) v0 1 (gI (pI s v0 0 (gI s v1 0)) v1 1)) v0 2 (gI (pI (pI s v0 0 (gI s v1 0)) v0 1 (gI (pI s v0 0 (gI s v1 0)) v1 1)) v1 2)) v1 3)) v0 4 (gI (pI (pI (pI (pI s v0 0 (gI s v1 0)) v0 1 (gI (pI s v0 0 (gI s v1 0)) v1 1)) v0 2 (gI (pI (pI s v0 0 (gI s v1 0)) v0 1 (gI (pI s v0 0 (gI s v1 0)) v1 1)) v1 2)) v0 3 (gI (pI (pI (pI s v0 0 (gI s v1 0)) v0 1 (gI (pI s v0 0 (gI s v1 0)) v1 1)) v0 2 (gI (pI (pI s v0 0 (gI s v1 0)) v0 1 (gI (pI s v0 0 (gI s v1 0)) v1 1)) v1 2)) v1 3)) v1 4)) v1 5)) v1 6)) v0 7 (gI (pL (pI (pI (pI (pI (pI (pI s v0 0 (gI s v1 0)) v0 1 (gI (pI s v0 0 (gI s v1 0)) v1 1)) v0 2 (gI (pI (pI s v0 0 (gI s v1 0)) v0 1 (gI (pI s v0 0 (gI s v1 0)) v1 1)) v1 2)) v0 3 (gI (pI (pI (pI s v0 0 (gI s v1 0)) v0 1 (gI (pI s v0 0 (gI s v1 0)) v1 1)) v0 2 (gI (pI (pI s v0 0 (gI s v1 0)) v0 1 (gI (pI s v0 0 (gI s v1 0)) v1 1)) v1 2)) v1 3)) v0 4 (gI (pI (pI (pI (pI s v0 0 (gI s v1 0)) v0 1 (gI (pI s v0 0 (gI s v1 0)) v1 1)) v0 2 (gI (pI (pI s v0 0 (gI s v1 0)) v0 1 (gI (pI s v0 0 (gI s v1 0)) v1 1)) v1 2)) v0 3 (gI (pI (pI (pI s v0 0 (gI s v1 0)) v0 1 (gI (pI s v0 0 (gI s v1 0)) v1 1)) v0 2 (gI (pI (pI s v0 0 (gI s v1 0)) v0 1 (gI (pI s v0 0 (gI s v1 0)) v1 1)) v1 2)) v1 3)) v1 4)) v0 5 (gI (pI (pI (pI (pI (pI s v0 0 (gI s v1 0)) v0 1 (gI (pI s v0 0 (gI s v1 0)) v1 1)) v0 2 (gI (pI (pI s v0 0 (gI s v1 0)) v0 1 (gI (pI s v0 0 (gI s v1 0)) v1 1)) v1 2)) v0 3 (gI (pI (pI (pI s v0 0 (gI s v1 0)) v0 1 (gI (pI s v0 0 (gI s v1 0)) v1 1)) v0 2 (gI (pI (pI s v0 0 (gI s v1 0)) v0 1 (gI (pI s v0 0 (gI s v1 0)) v1 1)) v1 2)) v1 3)) v0 4 (gI (pI (pI (pI (pI s v0 0 (gI s v1 0)) v0 1 (gI (pI s v0 0 (gI s v1 0)) v1 1)) v0 2 (gI (pI (pI s v0 0 (gI s v1 0)) v0 1 (gI (pI s v0 0 (gI s v1 0)) v1 1)) v1 2)) v0 3 (gI (pI (pI (pI s v0 0 (gI s v1 0)) v0 1 (gI (pI s v0 0 (gI s v1 0)) v1 1)) v0 2 (gI (pI (pI s v0 0 (gI s v1 0)) v0 1 (gI (pI s v0 0 (gI s v1 0)) v1 1)) v1 2)) v1 3)) v1 4)) v1 5)) v0 6 (gL (pI (pI (pI (pI (pI (pI s v0 0 (gI s v1 0)) v0 1 (gI (pI s v0 0 (gI s v1 0)) v1 1)) v0 2 (gI (pI (pI s v0 0 (gI s v1 0)) v0 1 (gI (pI s v0 0 (gI s v1 0)) v1 1)) v1 2)) v0 3 (gI (pI (pI (pI s v0 0 (gI s v1 0)) v0 1 (gI (pI s v0 0 (gI s v1 0)) v1 1)) v0 2 (gI (pI (pI s v0 0 (gI s v1 0)) v0 1 (gI (pI s v0 0 (gI s v1 0)) v1 1)) v1 2)) v1 3)) v0 4 (gI (pI (pI (pI (pI s v0 0 (gI s v1 0)) v0 1 (gI (pI s v0 0 (gI s v1 0)) v1 1)) v0 2 (gI (pI (pI s v0 0 (gI s v1 0)) v0 1 (gI (pI s v0 0 (gI s v1 0)) v1 1)) v1 2)) v0 3 (gI (pI (pI (pI s v0 0 (gI s v1 0)) v0 1 (gI (pI s v0 0 (gI s v1 0)) v1 1)) v0 2 (gI (pI (pI s v0 0 (gI s v1 0)) v0 1 (gI (pI s v0 0 (gI s v1 0)) v1 1)) v1 2)) v1 3)) v1 4)) v0 5 (gI (pI (pI (pI (pI (pI s v0 0 (gI s v1 0)) v0 1 (gI (pI s v0 0 (gI s v1 0)) v1 1)) v0 2 (gI (pI (pI s v0 0 (gI s v1 0)) v0 1 (gI (pI s v0 0 (gI s v1 0)) v1 1)) v1 2)) v0 3 (gI (pI (pI (pI s v0 0 (gI s v1 0)) v0 1 (gI (pI s v0 0 (gI s v1 0)) v1 1)) v0 2 (gI (pI (pI s v0 0 (gI s v1 0)) v0 1 (gI (pI s v0 0 (gI s v1 0)) v1 1)) v1 2)) v1 3)) v0 4 (gI (pI (pI (pI (pI s v0 0 (gI s v1 0)) v0 1 (gI (pI s v0 0 (gI s v1 0)) v1 1)) v0 2 (gI (pI (pI s v0 0 (gI s v1 0)) v0 1 (gI (pI s v0 0 (gI s v1 0)) v1 1)) v1 2)) v0 3 (gI (pI (pI (pI s v0 0 (gI s v1 0)) v0 1 (gI (pI s v0 0 (gI s v1 0)) v1 1)) v0 2 (gI (pI (pI s v0 0 (gI s v1 0)) v0 1 (gI (pI s v0 0 (gI s v1 0)) v1 1)) v1 2)) v1 3)) v1 4)) v1 5)) v1 6)) v1 7)) v0 8 (gI (pI (pL (pI (pI (pI (pI (pI (pI s v0 0 (gI s v1 0)) v0 1 (gI (pI s v0 0 (gI s v1 0)) v1 1)) v0 2 (gI (pI (pI s v0 0 (gI s v1 0)) v0 1 (gI (pI s v0 0 (gI s v1 0)) v1 1)) v1 2)) v0 3 (gI (pI (pI (pI s v0 0 (gI s v1 0)) v0 1 (gI (pI s v0 0 (gI s v1 0)) v1 1)) v0 2 (gI (pI (pI s v0 0 (gI s v1 0)) v0 1 (gI (pI s v0 0 (gI s v1 0)) v1 1)) v1 2)) v1 3)) v0 4 (gI (pI (pI (pI (pI s v0 0 (gI s v1 0)) v0 1 (gI (pI s v0 0 (gI s v1 0)) v1 1)) v0 2 (gI (pI (pI s v0 0 (gI s v1 0)) v0 1 (gI (pI s v0 0 (gI s v1 0)) v1 1)) v1 2)) v0 3 (gI (pI (pI (pI s v0 0 (gI s v1 0)) v0 1 (gI (pI s v0 0 (gI s v1 0)) v1 1)) v0 2 (gI (pI (pI s v0 0 (gI s v1 0)) v0 1 (gI (pI s v0 0 (gI s v1 0)) v1 1)) v1 2)) v1 3)) v1 4)) v0 5 (gI (pI (pI (pI (pI (pI s v0 0 (gI s v1 0)) v0 1 (gI (pI s v0 0 (gI s v1 0)) v1 1)) v0 2 (gI (pI (pI s v0 0 (gI s v1 0)) v0 1 (gI (pI s v0 0 (gI s v1 0)) v1 1)) v1 2)) v0 3 (gI (pI (pI (pI s v0 0 (gI s v1 0)) v0 1 (gI (pI s v0 0 (gI s v1 0)) v1 1)) v0 2 (gI (pI (pI s v0 0 (gI s v1 0)) v0 1 (gI (pI s v0 0 (gI s v1 0)) v1 1)) v1 2)) v1 3)) v0 4 (gI (pI (pI (pI (pI s v0 0 (gI s v1 0)) v0 1 (gI (pI s v0 0 (gI s v1 0)) v1 1)) v0 2 (gI (pI (pI s v0 0 (gI s v1 0)) v0 1 (gI (pI s v0 0 (gI s v1 0)) v1 1)) v1 2)) v0 3 (gI (pI (pI (pI s v0 0 (gI s v1 0)) v0 1 (gI (pI s v0 0 (gI s v1 0)) v1 1)) v0 2 (gI (pI (pI s v0 0 (gI s v1 0)) v0 1 (gI (pI s v0 0 (gI s v1 0)) v1 1)) v1 2)) v1 3)) v1 4)) v1 5)) v0 6 (gL (pI (pI (pI (pI (pI (pI s v0 0 (gI s v1 0)) v0 1 (gI (pI s v0 0 (gI s v1 0)) v1 1)) v0 2 (gI (pI (pI s v0 0 (gI s v1 0)) v0 1 (gI (pI s v0 0 (gI s v1 0)) v1 1)) v1 2)) v0 3 (gI (pI (pI (pI s v0 0 (gI s v1 0)) v0 1 (gI (pI s v0 0 (gI s v1 0)) v1 1)) v0 2 (gI (pI (pI s v0 0 (gI s v1 0)) v0 1 (gI (pI s v0 0 (gI s v1 0)) v1 1)) v1 2)) v1 3)) v0 4 (gI (pI (pI (pI (pI s v0 0 (gI s v1 0)) v0 1 (gI (pI s v0 0 (gI s v1 0)) v1 1)) v0 2 (gI (pI (pI s v0 0 (gI s v1 0)) v0 1 (gI (pI s v0 0 (gI s v1 0)) v1 1)) v1 2)) v0 3 (gI (pI (pI (pI s v0 0 (gI s v1 0)) v0 1 (gI (pI s v0 0 (gI s v1 0)) v1 1)) v0 2 (gI (pI (pI s v0 0 (gI s v1 0)) v0 1 (gI (pI s v0 0 (gI s v1 0)) v1 1)) v1 2)) v1 3)) v1 4)) v0 5 (gI (pI (pI (pI (pI (pI s v0 0 (gI s v1 0)) v0 1 (gI (pI s v0 0 (gI s v1 0)) v1 1)) v0 2 (gI (pI (pI s v0 0 (gI s v1 0)) v0 1 (gI (pI s v0 0 (gI s v1 0)) v1 1)) v1 2)) v0 3 (gI (pI (pI (pI s v0 0 (gI s v1 0)) v0 1 (gI (pI s v0 0 (gI s v1 0)) v1 1)) v0 2 (gI (pI (pI s v0 0 (gI s v1 0)) v0 1 (gI (pI s v0 0 (gI s v1 0)) v1 1)) v1 2)) v1 3)) v0 4 (gI (pI (pI (pI (pI s v0 0 (gI s v1 0)) v0 1 (gI (pI s v0 0 (gI s v1 0)) v1 1)) v0 2 (gI (pI (pI s v0 0 (gI s v1 0)) v0 1 (gI (pI s v0 0 (gI s v1 0)) v1 1)) v1 2)) v0 3 (gI (pI (pI (pI s v0 0 (gI s v1 0)) v0 1 (gI (pI s v0 0 (gI s v1 0)) v1 1)) v0 2 (gI (pI (pI s v0 0 (gI s v1 0)) v0 1 (gI (pI s v0 0 (gI s v1 0)) v1 1)) v1 2)) v1 3)) v1 4)) v1 5)) v1 6)) v0 7 (gI (pL (pI (pI (pI (pI (pI (pI s v0 0 (gI s v1 0)) v0 1 (gI (pI s v0 0 (gI s v1 0)) v1 1)) v0 2 (gI (pI (pI s v0 0 (gI s v1 0)) v0 1 (gI (pI s v0 0 (gI s v1 0)) v1 1)) v1 2)) v0 3 (gI (pI (pI (pI s v0 0 (gI s v1 0)) v0 1 (gI (pI s v0 0 (gI s v1 0)) v1 1)) v0 2 (gI (pI (pI s v0 0 (gI s v1 0)) v0 1 (gI (pI s v0 0 (gI s v1 0)) v1 1)) v1 2)) v1 3)) v0 4 (gI (pI (pI (pI (pI s v0 0 (gI s v1 0)) v0 1 (gI (pI s v0 0 (gI s v1 0)) v1 1)) v0 2 (gI (pI (pI s v0 0 (gI s v1 0)) v0 1 (gI (pI s v0 0 (gI s v1 0)) v1 1)) v1 2)) v0 3 (gI (pI (pI (pI s v0 0 (gI s v1 0)) v0 1 (gI (pI s v0 0 (gI s v1 0)) v1 1)) v0 2 (gI (pI (pI s v0 0 (gI s v1 0)) v0 1 (gI (pI s v0 0 (gI s v1 0)) v1 1)) v1 2)) v1 3)) v1 4)) v0 5 (gI (pI (pI (pI (pI (pI s v0 0 (gI s v1 0)) v0 1 (gI (pI s v0 0 (gI s v1 0)) v1 1)) v0 2 (gI (pI (pI s v0 0 (gI s v1 0)) v0 1 (gI (pI s v0 0 (gI s v1 0)) v1 1)) v1 2)) v0 3 (gI (pI (pI (pI s v0 0 (gI s v1 0)) v0 1 (gI (pI s v0 0 (gI s v1 0)) v1 1)) v0 2 (gI (pI (pI s v0 0 (gI s v1 0)) v0 1 (gI (pI s v0 0 (gI s v1 0)) v1 1)) v1 2)) v1 3)) v0 4 (gI (pI (pI (pI (pI s v0 0 (gI s v1 0)) v0 1 (gI (pI s v0 0 (gI s v1 0)) v1 1)) v0 2 (gI (pI (pI s v0 0 (gI s v1 0)) v0 1 (gI (pI s v0 0 (gI s v1 0)) v1 1)) v1 2)) v0 3 (gI (pI (pI (pI s v0 0 (gI s v1 0)) v0 1 (gI (pI s v0 0 (gI s v1 0)) v1 1)) v0 2 (gI (pI (pI s v0 0 (gI s v1 0)) v0 1 (gI (pI s v0 0 (gI s v1 0)) v1 1)) v1 2)) v1 3)) v1 4)) v1 5)) v0 6 (gL (pI (pI (pI (pI (pI (pI s v0 0 (gI s v1 0)) v0 1 (gI (pI s v0 0 (gI s v1 0)) v1 1)) v0 2 (gI (pI (pI s v0 0 (gI s v1 0)) v0 1 (gI (pI s v0 0 (gI s v1 0)) v1 1)) v1 2)) v0 3 (gI (pI (pI (pI s v0 0 (gI s v1 0)) v0 1 (gI (pI s v0 0 (gI s v1 0)) v1 1)) v0 2 (gI (pI (pI s v0 0 (gI s v1 0)) v0 1 (gI (pI s v0 0 (gI s v1 0)) v1 1)) v1 2)) v1 3)) v0 4 (gI (pI (pI (pI (pI s v0 0 (gI s v1 0)) v0 1 (gI (pI s v0 0 (gI s v1 0)) v1 1)) v0 2 (gI (pI (pI s v0 0 (gI s v1 0)) v0 1 (gI (pI s v0 0 (gI s v1 0)) v1 1)) v1 2)) v0 3 (gI (pI (pI (pI s v0 0 (gI s v1 0)) v0 1 (gI (pI s v0 0 (gI s v1 0)) v1 1)) v0 2 (gI (pI (pI s v0 0 (gI s v1 0)) v0 1 (gI (pI s v0 0 (gI s v1 0)) v1 1)) v1 2)) v1 3)) v1 4)) v0 5 (gI (pI (pI (pI (pI (pI s v0 0 (gI s v1 0)) v0 1 (gI (pI s v0 0 (gI s v1 0)) v1 1)) v0 2 (gI (pI (pI s v0 0 (gI s v1 0)) v0 1 (gI (pI s v0 0 (gI s v1 0)) v1 1)) v1 2)) v0 3 (gI (pI (pI (pI s v0 0 (gI s v1 0)) v0 1 (gI (pI s v0 0 (gI s v1 0)) v1 1)) v0 2 (gI (pI (pI s v0 0 (gI s v1 0)) v0 1 (gI (pI s v0 0 (gI s v1 0)) v1 1)) v1 2)) v1 3)) v0 4 (gI (pI (pI (pI (pI s v0 0 (gI s v1 0)) v0 1 (gI (pI s v0 0 (gI s v1 0)) v1 1)) v0 2 (gI (pI (pI s v0 0 (gI s v1 0)) v0 1 (gI (pI s v0 0 (gI s v1 0)) v1 1)) v1 2)) v0 3 (gI (pI (pI (pI s v0 0 (gI s v1 0)) v0 1 (gI (pI s v0 0 (gI s v1 0)) v1 1)) v0 2 (gI (pI (pI s v0 0 (gI s v1 0)) v0 1 (gI (pI s v0 0 (gI s v1 0)) v1 1)) v1 2)) v1 3)) v1 4)) v1 5)) v1 6)) v1 7)) v1 8)) v1 9)) v1 10) = 1) <|
  some (pI (pI (pI (pI (pL (pI (pI (pI (pI (pI (pI s v0 0 (gI s v1 0)) v0 1 (gI (pI s v0 0 (gI s v1 0)) v1 1)) v0 2 (gI (pI (pI s v0 0 (gI s v1 0)) v0 1 (gI (pI s v0 0 (gI s v1 0)) v1 1)) v1 2)) v0 3 (gI (pI (pI (pI s v0 0 (gI s v1 0)) v0 1 (gI (pI s v0 0 (gI s v1 0)) v1 1)) v0 2 (gI (pI (pI s v0 0 (gI s v1 0)) v0 1 (gI (pI s v0 0 (gI s v1 0)) v1 1)) v1 2)) v1 3)) v0 4 (gI (pI (pI (pI (pI s v0 0 (gI s v1 0)) v0 1 (gI (pI s v0 0 (gI s v1 0)) v1 1)) v0 2 (gI (pI (pI s v0 0 (gI s v1 0)) v0 1 (gI (pI s v0 0 (gI s v1 0)) v1 1)) v1 2)) v0 3 (gI (pI (pI (pI s v0 0 (gI s v1 0)) v0 1 (gI (pI s v0 0 (gI s v1 0)) v1 1)) v0 2 (gI (pI (pI s v0 0 (gI s v1 0)) v0 1 (gI (pI s v0 0 (gI s v1 0)) v1 1)) v1 2)) v1 3)) v1 4)) v0 5 (gI (pI (pI (pI (pI (pI s v0 0 (gI s v1 0)) v0 1 (gI (pI s v0 0 (gI s v1 0)) v1 1)) v0 2 (gI (pI (pI s v0 0 (gI s v1 0)) v0 1 (gI (pI s v0 0 (gI s v1 0)) v1 1)) v1 2)) v0 3 (gI (pI (pI (pI s v0 0 (gI s v1 0)) v0 1 (gI (pI s v0 0 (gI s v1 0)) v1 1)) v0 2 (gI (pI (pI s v0 0 (gI s v1 0)) v0 1 (gI (pI s v0 0 (gI s v1 0)) v1 1)) v1 2)) v1 3)) v0 4 (gI (pI (pI (pI (pI s v0 0 (gI s v1 0)) v0 1 (gI (pI s v0 0 (gI s v1 0)) v1 1)) v0 2 (gI (pI (pI s v0 0 (gI s v1 0)) v0 1 (gI (pI s v0 0 (gI s v1 0)) v1 1)) v1 2)) v0 3 (gI (pI (pI (pI s v0 0 (gI s v1 0)) v0 1 (gI (pI s v0 0 (gI s v1 0)) v1 1)) v0 2 (gI (pI (pI s v0 0 (gI s v1 0)) v0 1 (gI (pI s v0 0 (gI s v1 0)) v1 1)) v1 2)) v1 3)) v1 4)) v1 5)) v0 6 (gL (pI (pI (pI (pI (pI (pI s v0 0 (gI s v1 0)) v0 1 (gI (pI s v0 0 (gI s v1 0)) v1 1)) v0 2 (gI (pI (pI s v0 0 (gI s v1 0)) v0 1 (gI (pI s v0 0 (gI s v1 0)) v1 1)) v1 2)) v0 3 (gI (pI (pI (pI s v0 0 (gI s v1 0)) v0 1 (gI (pI s v0 0 (gI s v1 0)) v1 1)) v0 2 (gI (pI (pI s v0 0 (gI s v1 0)) v0 1 (gI (pI s v0 0 (gI s v1 0)) v1 1)) v1 2)) v1 3)) v0 4 (gI (pI (pI (pI (pI s v0 0 (gI s v1 0)) v0 1 (gI (pI s v0 0 (gI s v1 0)) v1 1)) v0 2 (gI (pI (pI s v0 0 (gI s v1 0)) v0 1 (gI (pI s v0 0 (gI s v1 0)) v1 1)) v1 2)) v0 3 (gI (pI (pI (pI s v0 0 (gI s v1 0)) v0 1 (gI (pI s v0 0 (gI s v1 0)) v1 1)) v0 2 (gI (pI (pI s v0 0 (gI s v1 0)) v0 1 (gI (pI s v0 0 (gI s v1 0)) v1 1)) v1 2)) v1 3)) v1 4)) v0 5 (gI (pI (pI (pI (pI (pI s v0 0 (gI s v1 0)) v0 1 (gI (pI s v0 0 (gI s v1 0)) v1 1)) v0 2 (gI (pI (pI s v0 0 (gI s v1 0)) v0 1 (gI (pI s v0 0 (gI s v1 0)) v1 1)) v1 2)) v0 3 (gI (pI (pI (pI s v0 0 (gI s v1 0)) v0 1 (gI (pI s v0 0 (gI s v1 0)) v1 1)) v0 2 (gI (pI (pI s v0 0 (gI s v1 0)) v0 1 (gI (pI s v0 0 (gI s v1 0)) v1 1)) v1 2)) v1 3)) v0 4 (gI (pI (pI (pI (pI s v0 0 (gI s v1 0)) v0 1 (gI (pI s v0 0 (gI s v1 0)) v1 1)) v0 2 (gI (pI (pI s v0 0 (gI s v1 0)) v0 1 (gI (pI s v0 0 (gI s v1 0)) v1 1)) v1 2)) v0 3 (gI (pI (pI (pI s v0 0 (gI s v1 0)) v0 1 (gI (pI s v0 0 (gI s v1 0)) v1 1)) v0 2 (gI (pI (pI s v0 0 (gI s v1 0)) v0 1 (gI (pI s v0 0 (gI s v1 0)) v1 1)) v1 2)) v1 3)) v1 4)) v1 5)) v1 6)) v0 7 (gI (pL (pI (pI (pI (pI (pI (pI s v0 0 (gI s v1 0)) v0 1 (gI (pI s v0 0 (gI s v1 0)) v1 1)) v0 2 (gI (pI (pI s v0 0 (gI s v1 0)) v0 1 (gI (pI s v0 0 (gI s v1 0)) v1 1)) v1 2)) v0 3 (gI (pI (pI (pI s v0 0 (gI s v1 0)) v0 1 (gI (pI s v0 0 (gI s v1 0)) v1 1)) v0 2 (gI (pI (pI s v0 0 (gI s v1 0)) v0 1 (gI (pI s v0 0 (gI s v1 0)) v1 1)) v1 2)) v1 3)) v0 4 (gI (pI (pI (pI (pI s v0 0 (gI s v1 0)) v0 1 (gI (pI s v0 0 (gI s v1 0)) v1 1)) v0 2 (gI (pI (pI s v0 0 (gI s v1 0)) v0 1 (gI (pI s v0 0 (gI s v1 0)) v1 1)) v1 2)) v0 3 (gI (pI (pI (pI s v0 0 (gI s v1 0)) v0 1 (gI (pI s v0 0 (gI s v1 0)) v1 1)) v0 2 (gI (pI (pI s v0 0 (gI s v1 0)) v0 1 (gI (pI s v0 0 (gI s v1 0)) v1 1)) v1 2)) v1 3)) v1 4)) v0 5 (gI (pI (pI (pI (pI (pI s v0 0 (gI s v1 0)) v0 1 (gI (pI s v0 0 (gI s v1 0)) v1 1)) v0 2 (gI (pI (pI s v0 0 (gI s v1 0)) v0 1 (gI (pI s v0 0 (gI s v1 0)) v1 1)) v1 2)) v0 3 (gI (pI (pI (pI s v0 0 (gI s v1 0)) v0 1 (gI (pI s v0 0 (gI s v1 0)) v1 1)) v0 2 (gI (pI (pI s v0 0 (gI s v1 0)) v0 1 (gI (pI s v0 0 (gI s v1 0)) v1 1)) v1 2)) v1 3)) v0 4 (gI (pI (pI (pI (pI s v0 0 (gI s v1 0)) v0 1 (gI (pI s v0 0 (gI s v1 0)) v1 1)) v0 2 (gI (pI (pI s v0 0 (gI s v1 0)) v0 1 (gI (pI s v0 0 (gI s v1 0)) v1 1)) v1 2)) v0 3 (gI (pI (pI (pI s v0 0 (gI s v1 0)) v0 1 (gI (pI s v0 0 (gI s v1 0)) v1 1)) v0 2 (gI (pI (pI s v0 0 (gI s v1 0)) v0 1 (gI (pI s v0 0 (gI s v1 0)) v1 1)) v1 2)) v1 3)) v1 4)) v1 5)) v0 6 (gL (pI (pI (pI (pI (pI (pI s v0 0 (gI s v1 0)) v0 1 (gI (pI s v0 0 (gI s v1 0)) v1 1)) v0 2 (gI (pI (pI s v0 0 (gI s v1 0)) v0 1 (gI (pI s v0 0 (gI s v1 0)) v1 1)) v1 2)) v0 3 (gI (pI (pI (pI s v0 0 (gI s v1 0)) v0 1 (gI (pI s v0 0 (gI s v1 0)) v1 1)) v0 2 (gI (pI (pI s v0 0 (gI s v1 0)) v0 1 (gI (pI s v0 0 (gI s v1 0)) v1 1)) v1 2)) v1 3)) v0 4 (gI (pI (pI (pI (pI s v0 0 (gI s v1 0)) v0 1 (gI (pI s v0 0 (gI s v1 0)) v1 1)) v0 2 (gI (pI (pI s v0 0 (gI s v1 0)) v0 1 (gI (pI s v0 0 (gI s v1 0)) v1 1)) v1 2)) v0 3 (gI (pI (pI (pI s v0 0 (gI s v1 0)) v0 1 (gI (pI s v0 0 (gI s v1 0)) v1 1)) v0 2 (gI (pI (pI s v0 0 (gI s v1 0)) v0 1 (gI (pI s v0 0 (gI s v1 0)) v1 1)) v1 2)) v1 3)) v1 4)) v0 5 (gI (pI (pI (pI (pI (pI s v0 0 (gI s v1 0)) v0 1 (gI (pI s v0 0 (gI s v1 0)) v1 1)) v0 2 (gI (pI (pI s v0 0 (gI s v1 0)) v0 1 (gI (pI s v0 0 (gI s v1 0)) v1 1)) v1 2)) v0 3 (gI (pI (pI (pI s v0 0 (gI s v1 0)) v0 1 (gI (pI s v0 0 (gI s v1 0)) v1 1)) v0 2 (gI (pI (pI s v0 0 (gI s v1 0)) v0 1 (gI (pI s v0 0 (gI s v1 0)) v1 1)) v1 2)) v1 3)) v0 4 (gI (pI (pI (pI (pI s v0 0 (gI s v1 0)) v0 1 (gI (pI s v0 0 (gI s v1 0)) v1 1)) v0 2 (gI (pI (pI s v0 0 (gI s v1 0)) v0 1 (gI (pI s v0 0 (gI s v1 0)) v1 1)) v1 2)) v0 3 (gI (pI (pI (pI s v0 0 (gI s v1 0)) v0 1 (gI (pI s v0 0 (gI s v1 0)) v1 1)) v0 2 (gI (pI (pI s v0 0 (gI s v1 0)) v0 1 (gI (pI s v0 0 (gI s v1 0)) v1 1)) v1 2)) v1 3)) v1 4)) v1 5)) v1 6)) v1 7)) v0 8 (gI (pI (pL (pI (pI (pI (pI (pI (pI s v0 0 (gI s v1 0)) v0 1 (gI (pI s v0 0 (gI s v1 0)) v1 1)) v0 2 (gI (pI (pI s v0 0 (gI s v1 0)) v0 1 (gI (pI s v0 0 (gI s v1 0)) v1 1)) v1 2)) v0 3 (gI (pI (pI (pI s v0 0 (gI s v1 0)) v0 1 (gI (pI s v0 0 (gI s v1 0)) v1 1)) v0 2 (gI (pI (pI s v0 0 (gI s v1 0)) v0 1 (gI (pI s v0 0 (gI s v1 0)) v1 1)) v1 2)) v1 3)) v0 4 (gI (pI (pI (pI (pI s v0 0 (gI s v1 0)) v0 1 (gI (pI s v0 0 (gI s v1 0)) v1 1)) v0 2 (gI (pI (pI s v0 0 (gI s v1 0)) v0 1 (gI (pI s v0 0 (gI s v1 0)) v1 1)) v1 2)) v0 3 (gI (pI (pI (pI s v0 0 (gI s v1 0)) v0 1 (gI (pI s v0 0 (gI s v1 0)) v1 1)) v0 2 (gI (pI (pI s v0 0 (gI s v1 0)) v0 1 (gI (pI s v0 0 (gI s v1 0)) v1 1)) v1 2)) v1 3)) v1 4)) v0 5 (gI (pI (pI (pI (pI (pI s v0 0 (gI s v1 0)) v0 1 (gI (pI s v0 0 (gI s v1 0)) v1 1)) v0 2 (gI (pI (pI s v0 0 (gI s v1 0)) v0 1 (gI (pI s v0 0 (gI s v1 0)) v1 1)) v1 2)) v0 3 (gI (pI (pI (pI s v0 0 (gI s v1 0)) v0 1 (gI (pI s v0 0 (gI s v1 0)) v1 1)) v0 2 (gI (pI (pI s v0 0 (gI s v1 0)) v0 1 (gI (pI s v0 0 (gI s v1 0)) v1 1)) v1 2)) v1 3)) v0 4 (gI (pI (pI (pI (pI s v0 0 (gI s v1 0)) v0 1 (gI (pI s v0 0 (gI s v1 0)) v1 1)) v0 2 (gI (pI (pI s v0 0 (gI s v1 0)) v0 1 (gI (pI s v0 0 (gI s v1 0)) v1 1)) v1 2)) v0 3 (gI (pI (pI (pI s v0 0 (gI s v1 0)) v0 1 (gI (pI s v0 0 (gI s v1 0)) v1 1)) v0 2 (gI (pI (pI s v0 0 (gI s v1 0)) v0 1 (gI (pI s v0 0 (gI s v1 0)) v1 1)) v1 2)) v1 3)) v1 4)) v1 5)) v0 6 (gL (pI (pI (pI (pI (pI (pI s v0 0 (gI s v1 0)) v0 1 (gI (pI s v0 0 (gI s v1 0)) v1 1)) v0 2 (gI (pI (pI s v0 0 (gI s v1 0)) v0 1 (gI (pI s v0 0 (gI s v1 0)) v1 1)) v1 2)) v0 3 (gI (pI (pI (pI s v0 0 (gI s v1 0)) v0 1 (gI (pI s v0 0 (gI s v1 0)) v1 1)) v0 2 (gI (pI (pI s v0 0 (gI s v1 0)) v0 1 (gI (pI s v0 0 (gI s v1 0)) v1 1)) v1 2)) v1 3)) v0 4 (gI (pI (pI (pI (pI s v0 0 (gI s v1 0)) v0 1 (gI (pI s v0 0 (gI s v1 0)) v1 1)) v0 2 (gI (pI (pI s v0 0 (gI s v1 0)) v0 1 (gI (pI s v0 0 (gI s v1 0)) v1 1)) v1 2)) v0 3 (gI (pI (pI (pI s v0 0 (gI s v1 0)) v0 1 (gI (pI s v0 0 (gI s v1 0)) v1 1)) v0 2 (gI (pI (pI s v0 0 (gI s v1 0)) v0 1 (gI (pI s v0 0 (gI s v1 0)) v1 1)) v1 2)) v1 3)) v1 4)) v0 5 (gI (pI (pI (pI (pI (pI s v0 0 (gI s v1 0)) v0 1 (gI (pI s v0 0 (gI s v1 0)) v1 1)) v0 2 (gI (pI (pI s v0 0 (gI s v1 0)) v0 1 (gI (pI s v0 0 (gI s v1 0)) v1 1)) v1 2)) v0 3 (gI (pI (pI (pI s v0 0 (gI s v1 0)) v0 1 (gI (pI s v0 0 (gI s v1 0)) v1 1)) v0 2 (gI (pI (pI s v0 0 (gI s v1 0)) v0 1 (gI (pI s v0 0 (gI s v1 0)) v1 1)) v1 2)) v1 3)) v0 4 (gI (pI (pI (pI (pI s v0 0 (gI s v1 0)) v0 1 (gI (pI s v0 0 (gI s v1 0)) v1 1)) v0 2 (gI (pI (pI s v0 0 (gI s v1 0)) v0 1 (gI (pI s v0 0 (gI s v1 0)) v1 1)) v1 2)) v0 3 (gI (pI (pI (pI s v0 0 (gI s v1 0)) v0 1 (gI (pI s v0 0 (gI s v1 0)) v1 1)) v0 2 (gI (pI (pI s v0 0 (gI s v1 0)) v0 1 (gI (pI s v0 0 (gI s v1 0)) v1 1)) v1 2)) v1 3)) v1 4)) v1 5)) v1 6)) v0 7 (gI (pL (pI (pI (pI (pI (pI (pI s v0 0 (gI s v1 0)) v0 1 (gI (pI s v0 0 (gI s v1 0)) v1 1)) v0 2 (gI (pI (pI s v0 0 (gI s v1 0)) v0 1 (gI (pI s v0 0 (gI s v1 0)) v1 1)) v1 2)) v0 3 (gI (pI (pI (pI s v0 0 (gI s v1 0)) v0 1 (gI (pI s v0 0 (gI s v1 0)) v1 1)) v0 2 (gI (pI (pI s v0 0 (gI s v1 0)) v0 1 (gI (pI s v0 0 (gI s v1 0)) v1 1)) v1 2)) v1 3)) v0 4 (gI (pI (pI (pI (pI s v0 0 (gI s v1 0)) v0 1 (gI (pI s v0 0 (gI s v1 0)) v1 1)) v0 2 (gI (pI (pI s v0 0 (gI s v1 0)) v0 1 (gI (pI s v0 0 (gI s v1 0)) v1 1)) v1 2)) v0 3 (gI (pI (pI (pI s v0 0 (gI s v1 0)) v0 1 (gI (pI s v0 0 (gI s v1 0)) v1 1)) v0 2 (gI (pI (pI s v0 0 (gI s v1 0)) v0 1 (gI (pI s v0 0 (gI s v1 0)) v1 1)) v1 2)) v1 3)) v1 4)) v0 5 (gI (pI (pI (pI (pI (pI s v0 0 (gI s v1 0)) v0 1 (gI (pI s v0 0 (gI s v1 0)) v1 1)) v0 2 (gI (pI (pI s v0 0 (gI s v1 0)) v0 1 (gI (pI s v0 0 (gI s v1 0)) v1 1)) v1 2)) v0 3 (gI (pI (pI (pI s v0 0 (gI s v1 0)) v0 1 (gI (pI s v0 0 (gI s v1 0)) v1 1)) v0 2 (gI (pI (pI s v0 0 (gI s v1 0)) v0 1 (gI (pI s v0 0 (gI s v1 0)) v1 1)) v1 2)) v1 3)) v0 4 (gI (pI (pI (pI (pI s v0 0 (gI s v1 0)) v0 1 (gI (pI s v0 0 (gI s v1 0)) v1 1)) v0 2 (gI (pI (pI s v0 0 (gI s v1 0)) v0 1 (gI (pI s v0 0 (gI s v1 0)) v1 1)) v1 2)) v0 3 (gI (pI (pI (pI s v0 0 (gI s v1 0)) v0 1 (gI (pI s v0 0 (gI s v1 0)) v1 1)) v0 2 (gI (pI (pI s v0 0 (gI s v1 0)) v0 1 (gI (pI s v0 0 (gI s v1 0)) v1 1)) v1 2)) v1 3)) v1 4)) v1 5)) v0 6 (gL (pI (pI (pI (pI (pI (pI s v0 0 (gI s v1 0)) v0 1 (gI (pI s v0 0 (gI s v1 0)) v1 1)) v0 2 (gI (pI (pI s v0 0 (gI s v1 0)) v0 1 (gI (pI s v0 0 (gI s v1 0)) v1 1)) v1 2)) v0 3 (gI (pI (pI (pI s v0 0 (gI s v1 0)) v0 1 (gI (pI s v0 0 (gI s v1 0)) v1 1)) v0 2 (gI (pI (pI s v0 0 (gI s v1 0)) v0 1 (gI (pI s v0 0 (gI s v1 0)) v1 1)) v1 2)) v1 3)) v0 4 (gI (pI (pI (pI (pI s v0 0 (gI s v1 0)) v0 1 (gI (pI s v0 0 (gI s v1 0)) v1 1)) v0 2 (gI (pI (pI s v0 0 (gI s v1 0)) v0 1 (gI (pI s v0 0 (gI s v1 0)) v1 1)) v1 2)) v0 3 (gI (pI (pI (pI s v0 0 (gI s v1 0)) v0 1 (gI (pI s v0 0 (gI s v1 0)) v1 1)) v0 2 (gI (pI (pI s v0 0 (gI s v1 0)) v0 1 (gI (pI s v0 0 (gI s v1 0)) v1 1)) v1 2)) v1 3)) v1 4)) v0 5 (gI (pI (pI (pI (pI (pI s v0 0 (gI s v1 0)) v0 1 (gI (pI s v0 0 (gI s v1 0)) v1 1)) v0 2 (gI (pI (pI s v0 0 (gI s v1 0)) v0 1 (gI (pI s v0 0 (gI s v1 0)) v1 1)) v1 2)) v0 3 (gI (pI (pI (pI s v0 0 (gI s v1 0)) v0 1 (gI (pI s v0 0 (gI s v1 0)) v1 1)) v0 2 (gI (pI (pI s v0 0 (gI s v1 0)) v0 1 (gI (pI s v0 0 (gI s v1 0)) v1 1)) v1 2)) v1 3)) v0 4 (gI (pI (pI (pI (pI s v0 0 (gI s v1 0)) v0 1 (gI (pI s v0 0 (gI s v1 0)) v1 1)) v0 2 (gI (pI (pI s v0 0 (gI s v1 0)) v0 1 (gI (pI s v0 0 (gI s v1 0)) v1 1)) v1 2)) v0 3 (gI (pI (pI (pI s v0 0 (gI s v1 0)) v0 1 (gI (pI s v0 0 (gI s v1 0)) v1 1)) v0 2 (gI (pI (pI s v0 0 (gI s v1 0)) v0 1 (gI (pI s v0 0 (gI s v1 0)) v1 1)) v1 2)) v1 3)) v1 4)) v1 5)) v1 6)) v1 7)) v1 8)) v0 9 (gI (pI (pI (pL (pI (pI (pI (pI (pI (pI s v0 0 (gI s v1 0)) v0 1 (gI (pI s v0 0 (gI s v1 0)) v1 1)) v0 2 (gI (pI (pI s v0 0 (gI s v1 0)) v0 1 (gI (pI s v0 0 (gI s v1 0)) v1 1)) v1 2)) v0 3 (gI (pI (pI (pI s v0 0 (gI s v1 0)) v0 1 (gI (pI s v0 0 (gI s v1 0)) v1 1)) v0 2 (gI (pI (pI s v0 0 (gI s v1 0)) v0 1 (gI (pI s v0 0 (gI s v1 0)) v1 1)) v1 2)) v1 3)) v0 4 (gI (pI (pI (pI (pI s v0 0 (gI s v1 0)) v0 1 (gI (pI s v0 0 (gI s v1 0)) v1 1)) v0 2 (gI (pI (pI s v0 0 (gI s v1 0)) v0 1 (gI (pI s v0 0 (gI s v1 0)) v1 1)) v1 2)) v0 3 (gI (pI (pI (pI s v0 0 (gI s v1 0)) v0 1 (gI (pI s v0 0 (gI s v1 0)) v1 1)) v0 2 (gI (pI (pI s v0 0 (gI s v1 0)) v0 1 (gI (pI s v0 0 (gI s v1 0)) v1 1)) v1 2)) v1 3)) v1 4)) v0 5 (gI (pI (pI (pI (pI (pI s v0 0 (gI s v1 0)) v0 1 (gI (pI s v0 0 (gI s v1 0)) v1 1)) v0 2 (gI (pI (pI s v0 0 (gI s v1 0)) v0 1 (gI (pI s v0 0 (gI s v1 0)) v1 1)) v1 2)) v0 3 (gI (pI (pI (pI s v0 0 (gI s v1 0)) v0 1 (gI (pI s v0 0 (gI s v1 0)) v1 1)) v0 2 (gI (pI (pI s v0 0 (gI s v1 0)) v0 1 (gI (pI s v0 0 (gI s v1 0)) v1 1)) v1 2)) v1 3)) v0 4 (gI (pI (pI (pI (pI s v0 0 (gI s v1 0)) v0 1 (gI (pI s v0 0 (gI s v1 0)) v1 1)) v0 2 (gI (pI (pI s v0 0 (gI s v1 0)) v0 1 (gI (pI s v0 0 (gI s v1 0)) v1 1)) v1 2)) v0 3 (gI (pI (pI (pI s v0 0 (gI s v1 0)) v0 1 (gI (pI s v0 0 (gI s v1 0)) v1 1)) v0 2 (gI (pI (pI s v0 0 (gI s v1 0)) v0 1 (gI (pI s v0 0 (gI s v1 0)) v1 1)) v1 2)) v1 3)) v1 4)) v1 5)) v0 6 (gL (pI (pI (pI (pI (pI (pI s v0 0 (gI s v1 0)) v0 1 (gI (pI s v0 0 (gI s v1 0)) v1 1)) v0 2 (gI (pI (pI s v0 0 (gI s v1 0)) v0 1 (gI (pI s v0 0 (gI s v1 0)) v1 1)) v1 2)) v0 3 (gI (pI (pI (pI s v0 0 (gI s v1 0)) v0 1 (gI (pI s v0 0 (gI s v1 0)) v1 1)) v0 2 (gI (pI (pI s v0 0 (gI s v1 0)) v0 1 (gI (pI s v0 0 (gI s v1 0)) v1 1)) v1 2)) v1 3)) v0 4 (gI (pI (pI (pI (pI s v0 0 (gI s v1 0)) v0 1 (gI (pI s v0 0 (gI s v1 0)) v1 1)) v0 2 (gI (pI (pI s v0 0 (gI s v1 0)) v0 1 (gI (pI s v0 0 (gI s v1 0)) v1 1)) v1 2)) v0 3 (gI (pI (pI (pI s v0 0 (gI s v1 0)) v0 1 (gI (pI s v0 0 (gI s v1 0)) v1 1)) v0 2 (gI (pI (pI s v0 0 (gI s v1 0)) v0 1 (gI (pI s v0 0 (gI s v1 0)) v1 1)) v1 2)) v1 3)) v1 4)) v0 5 (gI (pI (pI (pI (pI (pI s v0 0 (gI s v1 0)) v0 1 (gI (pI s v0 0 (gI s v1 0)) v1 1)) v0 2 (gI (pI (pI s v0 0 (gI s v1 0)) v0 1 (gI (pI s v0 0 (gI s v1 0)) v1 1)) v1 2)) v0 3 (gI (pI (pI (pI s v0 0 (gI s v1 0)) v0 1 (gI (pI s v0 0 (gI s v1 0)) v1 1)) v0 2 (gI (pI (pI s v0 0 (gI s v1 0)) v0 1 (gI (pI s v0 0 (gI s v1 0)) v1 1)) v1 2)) v1 3)) v0 4 (gI (pI (pI (pI (pI s v0 0 (gI s v1 0)) v0 1 (gI (pI s v0 0 (gI s v1 0)) v1 1)) v0 2 (gI (pI (pI s v0 0 (gI s v1 0)) v0 1 (gI (pI s v0 0 (gI s v1 0)) v1 1)) v1 2)) v0 3 (gI (pI (pI (pI s v0 0 (gI s v1 0)) v0 1 (gI (pI s v0 0 (gI s v1 0)) v1 1)) v0 2 (gI (pI (pI s v0 0 (gI s v1 0)) v0 1 (gI (pI s v0 0 (gI s v1 0)) v1 1)) v1 2)) v1 3)) v1 4)) v1 5)) v1 6)) v0 7 (gI (pL (pI (pI (pI (pI (pI (pI s v0 0 (gI s v1 0)) v0 1 (gI (pI s v0 0 (gI s v1 0)) v1 1)) v0 2 (gI (pI (pI s v0 0 (gI s v1 0)) v0 1 (gI (pI s v0 0 (gI s v1 0)) v1 1)) v1 2)) v0 3 (gI (pI (pI (pI s v0 0 (gI s v1 0)) v0 1 (gI (pI s v0 0 (gI s v1 0)) v1 1)) v0 2 (gI (pI (pI s v0 0 (gI s v1 0)) v0 1 (gI (pI s v0 0 (gI s v1 0)) v1 1)) v1 2)) v1 3)) v0 4 (gI (pI (pI (pI (pI s v0 0 (gI s v1 0)) v0 1 (gI (pI s v0 0 (gI s v1 0)) v1 1)) v0 2 (gI (pI (pI s v0 0 (gI s v1 0)) v0 1 (gI (pI s v0 0 (gI s v1 0)) v1 1)) v1 2)) v0 3 (gI (pI (pI (pI s v0 0 (gI s v1 0)) v0 1 (gI (pI s v0 0 (gI s v1 0)) v1 1)) v0 2 (gI (pI (pI s v0 0 (gI s v1 0)) v0 1 (gI (pI s v0 0 (gI s v1 0)) v1 1)) v1 2)) v1 3)) v1 4)) v0 5 (gI (pI (pI (pI (pI (pI s v0 0 (gI s v1 0)) v0 1 (gI (pI s v0 0 (gI s v1 0)) v1 1)) v0 2 (gI (pI (pI s v0 0 (gI s v1 0)) v0 1 (gI (pI s v0 0 (gI s v1 0)) v1 1)) v1 2)) v0 3 (gI (pI (pI (pI s v0 0 (gI s v1 0)) v0 1 (gI (pI s v0 0 (gI s v1 0)) v1 1)) v0 2 (gI (pI (pI s v0 0 (gI s v1 0)) v0 1 (gI (pI s v0 0 (gI s v1 0)) v1 1)) v1 2)) v1 3)) v0 4 (gI (pI (pI (pI (pI s v0 0 (gI s v1 0)) v0 1 (gI (pI s v0 0 (gI s v1 0)) v1 1)) v0 2 (gI (pI (pI s v0 0 (gI s v1 0)) v0 1 (gI (pI s v0 0 (gI s v1 0)) v1 1)) v1 2)) v0 3 (gI (pI (pI (pI s v0 0 (gI s v1 0)) v0 1 (gI (pI s v0 0 (gI s v1 0)) v1 1)) v0 2 (gI (pI (pI s v0 0 (gI s v1 0)) v0 1 (gI (pI s v0 0 (gI s v1 0)) v1 1)) v1 2)) v1 3)) v1 4)) v1 5)) v0 6 (gL (pI (pI (pI (pI (pI (pI s v0 0 (gI s v1 0)) v0 1 (gI (pI s v0 0 (gI s v1 0)) v1 1)) v0 2 (gI (pI (pI s v0 0 (gI s v1 0)) v0 1 (gI (pI s v0 0 (gI s v1 0)) v1 1)) v1 2)) v0 3 (gI (pI (pI (pI s v0 0 (gI s v1 0)) v0 1 (gI (pI s v0 0 (gI s v1 0)) v1 1)) v0 2 (gI (pI (pI s v0 0 (gI s v1 0)) v0 1 (gI (pI s v0 0 (gI s v1 0)) v1 1)) v1 2)) v1 3)) v0 4 (gI (pI (pI (pI (pI s v0 0 (gI s v1 0)) v0 1 (gI (pI s v0 0 (gI s v1 0)) v1 1)) v0 2 (gI (pI (pI s v0 0 (gI s v1 0)) v0 1 (gI (pI s v0 0 (gI s v1 0)) v1 1)) v1 2)) v0 3 (gI (pI (pI (pI s v0 0 (gI s v1 0)) v0 1 (gI (pI s v0 0 (gI s v1 0)) v1 1)) v0 2 (gI (pI (pI s v0 0 (gI s v1 0)) v0 1 (gI (pI s v0 0 (gI s v1 0)) v1 1)) v1 2)) v1 3)) v1 4)) v0 5 (gI (pI (pI (pI (pI (pI s v0 0 (gI s v1 0)) v0 1 (gI (pI s v0 0 (gI s v1 0)) v1 1)) v0 2 (gI (pI (pI s v0 0 (gI s v1 0)) v0 1 (gI (pI s v0 0 (gI s v1 0)) v1 1)) v1 2)) v0 3 (gI (pI (pI (pI s v0 0 (gI s v1 0)) v0 1 (gI (pI s v0 0 (gI s v1 0)) v1 1)) v0 2 (gI (pI (pI s v0 0 (gI s v1 0)) v0 1 (gI (pI s v0 0 (gI s v1 0)) v1 1)) v1 2)) v1 3)) v0 4 (gI (pI (pI (pI (pI s v0 0 (gI s v1 0)) v0 1 (gI (pI s v0 0 (gI s v1 0)) v1 1)) v0 2 (gI (pI (pI s v0 0 (gI s v1 0)) v0 1 (gI (pI s v0 0 (gI s v1 0)) v1 1)) v1 2)) v0 3 (gI (pI (pI (pI s v0 0 (gI s v1 0)) v0 1 (gI (pI s v0 0 (gI s v1 0)) v1 1)) v0 2 (gI (pI (pI s v0 0 (gI s v1 0)) v0 1 (gI (pI s v0 0 (gI s v1 0)) v1 1)) v1 2)) v1 3)) v1 4)) v1 5)) v1 6)) v1 7)) v0 8 (gI (pI (pL (pI (pI (pI (pI (pI (pI s v0 0 (gI s v1 0)) v0 1 (gI (pI s v0 0 (gI s v1 0)) v1 1)) v0 2 (gI (pI (pI s v0 0 (gI s v1 0)) v0 1 (gI (pI s v0 0 (gI s v1 0)) v1 1)) v1 2)) v0 3 (gI (pI (pI (pI s v0 0 (gI s v1 0)) v0 1 (gI (pI s v0 0 (gI s v1 0)) v1 1)) v0 2 (gI (pI (pI s v0 0 (gI s v1 0)) v0 1 (gI (pI s v0 0 (gI s v1 0)) v1 1)) v1 2)) v1 3)) v0 4 (gI (pI (pI (pI (pI s v0 0 (gI s v1 0)) v0 1 (gI (pI s v0 0 (gI s v1 0)) v1 1)) v0 2 (gI (pI (pI s v0 0 (gI s v1 0)) v0 1 (gI (pI s v0 0 (gI s v1 0)) v1 1)) v1 2)) v0 3 (gI (pI (pI (pI s v0 0 (gI s v1 0)) v0 1 (gI (pI s v0 0 (gI s v1 0)) v1 1)) v0 2 (gI (pI (pI s v0 0 (gI s v1 0)) v0 1 (gI (pI s v0 0 (gI s v1 0)) v1 1)) v1 2)) v1 3)) v1 4)) v0 5 (gI (pI (pI (pI (pI (pI s v0 0 (gI s v1 0)) v0 1 (gI (pI s v0 0 (gI s v1 0)) v1 1)) v0 2 (gI (pI (pI s v0 0 (gI s v1 0)) v0 1 (gI (pI s v0 0 (gI s v1 0)) v1 1)) v1 2)) v0 3 (gI (pI (pI (pI s v0 0 (gI s v1 0)) v0 1 (gI (pI s v0 0 (gI s v1 0)) v1 1)) v0 2 (gI (pI (pI s v0 0 (gI s v1 0)) v0 1 (gI (pI s v0 0 (gI s v1 0)) v1 1)) v1 2)) v1 3)) v0 4 (gI (pI (pI (pI (pI s v0 0 (gI s v1 0)) v0 1 (gI (pI s v0 0 (gI s v1 0)) v1 1)) v0 2 (gI (pI (pI s v0 0 (gI s v1 0)) v0 1 (gI (pI s v0 0 (gI s v1 0)) v1 1)) v1 2)) v0 3 (gI (pI (pI (pI s v0 0 (gI s v1 0)) v0 1 (gI (pI s v0 0 (gI s v1 0)) v1 1)) v0 2 (gI (pI (pI s v0 0 (gI s v1 0)) v0 1 (gI (pI s v0 0 (gI s v1 0)) v1 1)) v1 2)) v1 3)) v1 4)) v1 5)) v0 6 (gL (pI (pI (pI (pI (pI (pI s v0 0 (gI s v1 0)) v0 1 (gI (pI s v0 0 (gI s v1 0)) v1 1)) v0 2 (gI (pI (pI s v0 0 (gI s v1 0)) v0 1 (gI (pI s v0 0 (gI s v1 0)) v1 1)) v1 2)) v0 3 (gI (pI (pI (pI s v0 0 (gI s v1 0)) v0 1 (gI (pI s v0 0 (gI s v1 0)) v1 1)) v0 2 (gI (pI (pI s v0 0 (gI s v1 0)) v0 1 (gI (pI s v0 0 (gI s v1 0)) v1 1)) v1 2)) v1 3)) v0 4 (gI (pI (pI (pI (pI s v0 0 (gI s v1 0)) v0 1 (gI (pI s v0 0 (gI s v1 0)) v1 1)) v0 2 (gI (pI (pI s v0 0 (gI s v1 0)) v0 1 (gI (pI s v0 0 (gI s v1 0)) v1 1)) v1 2)) v0 3 (gI (pI (pI (pI s v0 0 (gI s v1 0)) v0 1 (gI (pI s v0 0 (gI s v1 0)) v1 1)) v0 2 (gI (pI (pI s v0 0 (gI s v1 0)) v0 1 (gI (pI s v0 0 (gI s v1 0)) v1 1)) v1 2)) v1 3)) v1 4)) v0 5 (gI (pI (pI (pI (pI (pI s v0 0 (gI s v1 0)) v0 1 (gI (pI s v0 0 (gI s v1 0)) v1 1)) v0 2 (gI (pI (pI s v0 0 (gI s v1 0)) v0 1 (gI (pI s v0 0 (gI s v1 0)) v1 1)) v1 2)) v0 3 (gI (pI (pI (pI s v0 0 (gI s v1 0)) v0 1 (gI (pI s v0 0 (gI s v1 0)) v1 1)) v0 2 (gI (pI (pI s v0 0 (gI s v1 0)) v0 1 (gI (pI s v0 0 (gI s v1 0)) v1 1)) v1 2)) v1 3)) v0 4 (gI (pI (pI (pI (pI s v0 0 (gI s v1 0)) v0 1 (gI (pI s v0 0 (gI s v1 0)) v1 1)) v0 2 (gI (pI (pI s v0 0 (gI s v1 0)) v0 1 (gI (pI s v0 0 (gI s v1 0)) v1 1)) v1 2)) v0 3 (gI (pI (pI (pI s v0 0 (gI s v1 0)) v0 1 (gI (pI s v0 0 (gI s v1 0)) v1 1)) v0 2 (gI (pI (pI s v0 0 (gI s v1 0)) v0 1 (gI (pI s v0 0 (gI s v1 0)) v1 1)) v1 2)) v1 3)) v1 4)) v1 5)) v1 6)) v0 7 (gI (pL (pI (pI (pI (pI (pI (pI s v0 0 (gI s v1 0)) v0 1 (gI (pI s v0 0 (gI s v1 0)) v1 1)) v0 2 (gI (pI (pI s v0 0 (gI s v1 0)) v0 1 (gI (pI s v0 0 (gI s v1 0)) v1 1)) v1 2)) v0 3 (gI (pI (pI (pI s v0 0 (gI s v1 0)) v0 1 (gI (pI s v0 0 (gI s v1 0)) v1 1)) v0 2 (gI (pI (pI s v0 0 (gI s v1 0)) v0 1 (gI (pI s v0 0 (gI s v1 0)) v1 1)) v1 2)) v1 3)) v0 4 (gI (pI (pI (pI (pI s v0 0 (gI s v1 0)) v0 1 (gI (pI s v0 0 (gI s v1 0)) v1 1)) v0 2 (gI (pI (pI s v0 0 (gI s v1 0)) v0 1 (gI (pI s v0 0 (gI s v1 0)) v1 1)) v1 2)) v0 3 (gI (pI (pI (pI s v0 0 (gI s v1 0)) v0 1 (gI (pI s v0 0 (gI s v1 0)) v1 1)) v0 2 (gI (pI (pI s v0 0 (gI s v1 0)) v0 1 (gI (pI s v0 0 (gI s v1 0)) v1 1)) v1 2)) v1 3)) v1 4)) v0 5 (gI (pI (pI (pI (pI (pI s v0 0 (gI s v1 0)) v0 1 (gI (pI s v0 0 (gI s v1 0)) v1 1)) v0 2 (gI (pI (pI s v0 0 (gI s v1 0)) v0 1 (gI (pI s v0 0 (gI s v1 0)) v1 1)) v1 2)) v0 3 (gI (pI (pI (pI s v0 0 (gI s v1 0)) v0 1 (gI (pI s v0 0 (gI s v1 0)) v1 1)) v0 2 (gI (pI (pI s v0 0 (gI s v1 0)) v0 1 (gI (pI s v0 0 (gI s v1 0)) v1 1)) v1 2)) v1 3)) v0 4 (gI (pI (pI (pI (pI s v0 0 (gI s v1 0)) v0 1 (gI (pI s v0 0 (gI s v1 0)) v1 1)) v0 2 (gI (pI (pI s v0 0 (gI s v1 0)) v0 1 (gI (pI s v0 0 (gI s v1 0)) v1 1)) v1 2)) v0 3 (gI (pI (pI (pI s v0 0 (gI s v1 0)) v0 1 (gI (pI s v0 0 (gI s v1 0)) v1 1)) v0 2 (gI (pI (pI s v0 0 (gI s v1 0)) v0 1 (gI (pI s v0 0 (gI s v1 0)) v1 1)) v1 2)) v1 3)) v1 4)) v1 5)) v0 6 (gL (pI (pI (pI (pI (pI (pI s v0 0 (gI s v1 0)) v0 1 (gI (pI s v0 0 (gI s v1 0)) v1 1)) v0 2 (gI (pI (pI s v0 0 (gI s v1 0)) v0 1 (gI (pI s v0 0 (gI s v1 0)) v1 1)) v1 2)) v0 3 (gI (pI (pI (pI s v0 0 (gI s v1 0)) v0 1 (gI (pI s v0 0 (gI s v1 0)) v1 1)) v0 2 (gI (pI (pI s v0 0 (gI s v1 0)) v0 1 (gI (pI s v0 0 (gI s v1 0)) v1 1)) v1 2)) v1 3)) v0 4 (gI (pI (pI (pI (pI s v0 0 (gI s v1 0)) v0 1 (gI (pI s v0 0 (gI s v1 0)) v1 1)) v0 2 (gI (pI (pI s v0 0 (gI s v1 0)) v0 1 (gI (pI s v0 0 (gI s v1 0)) v1 1)) v1 2)) v0 3 (gI (pI (pI (pI s v0 0 (gI s v1 0)) v0 1 (gI (pI s v0 0 (gI s v1 0)) v1 1)) v0 2 (gI (pI (pI s v0 0 (gI s v1 0)) v0 1 (gI (pI s v0 0 (gI s v1 0)) v1 1)) v1 2)) v1 3)) v1 4)) v0 5 (gI (pI (pI (pI (pI (pI s v0 0 (gI s v1 0)) v0 1 (gI (pI s v0 0 (gI s v1 0)) v1 1)) v0 2 (gI (pI (pI s v0 0 (gI s v1 0)) v0 1 (gI (pI s v0 0 (gI s v1 0)) v1 1)) v1 2)) v0 3 (gI (pI (pI (pI s v0 0 (gI s v1 0)) v0 1 (gI (pI s v0 0 (gI s v1 0)) v1 1)) v0 2 (gI (pI (pI s v0 0 (gI s v1 0)) v0 1 (gI (pI s v0 0 (gI s v1 0)) v1 1)) v1 2)) v1 3)) v0 4 (gI (pI (pI (pI (pI s v0 0 (gI s v1 0)) v0 1 (gI (pI s v0 0 (gI s v1 0)) v1 1)) v0 2 (gI (pI (pI s v0 0 (gI s v1 0)) v0 1 (gI (pI s v0 0 (gI s v1 0)) v1 1)) v1 2)) v0 3 (gI (pI (pI (pI s v0 0 (gI s v1 0)) v0 1 (gI (pI s v0 0 (gI s v1 0)) v1 1)) v0 2 (gI (pI (pI s v0 0 (gI s v1 0)) v0 1 (gI (pI s v0 0 (gI s v1 0)) v1 1)) v1 2)) v1 3)) v1 4)) v1 5)) v1 6)) v1 7)) v1 8)) v1 9)) v0 10 (gI (pI (pI (pI (pL (pI (pI (pI (pI (pI (pI s v0 0 (gI s v1 0)) v0 1 (gI (pI s v0 0 (gI s v1 0)) v1 1)) v0 2 (gI (pI (pI s v0 0 (gI s v1 0)) v0 1 (gI (pI s v0 0 (gI s v1 0)) v1 1)) v1 2)) v0 3 (gI (pI (pI (pI s v0 0 (gI s v1 0)) v0 1 (gI (pI s v0 0 (gI s v1 0)) v1 1)) v0 2 (gI (pI (pI s v0 0 (gI s v1 0)) v0 1 (gI (pI s v0 0 (gI s v1 0)) v1 1)) v1 2)) v1 3)) v0 4 (gI (pI (pI (pI (pI s v0 0 (gI s v1 0)) v0 1 (gI (pI s v0 0 (gI s v1 0)) v1 1)) v0 2 (gI (pI (pI s v0 0 (gI s v1 0)) v0 1 (gI (pI s v0 0 (gI s v1 0)) v1 1)) v1 2)) v0 3 (gI (pI (pI (pI s v0 0 (gI s v1 0)) v0 1 (gI (pI s v0 0 (gI s v1 0)) v1 1)) v0 2 (gI (pI (pI s v0 0 (gI s v1 0)) v0 1 (gI (pI s v0 0 (gI s v1 0)) v1 1)) v1 2)) v1 3)) v1 4)) v0 5 (gI (pI (pI (pI (pI (pI s v0 0 (gI s v1 0)) v0 1 (gI (pI s v0 0 (gI s v1 0)) v1 1)) v0 2 (gI (pI (pI s v0 0 (gI s v1 0)) v0 1 (gI (pI s v0 0 (gI s v1 0)) v1 1)) v1 2)) v0 3 (gI (pI (pI (pI s v0 0 (gI s v1 0)) v0 1 (gI (pI s v0 0 (gI s v1 0)) v1 1)) v0 2 (gI (pI (pI s v0 0 (gI s v1 0)) v0 1 (gI (pI s v0 0 (gI s v1 0)) v1 1)) v1 2)) v1 3)) v0 4 (gI (pI (pI (pI (pI s v0 0 (gI s v1 0)) v0 1 (gI (pI s v0 0 (gI s v1 0)) v1 1)) v0 2 (gI (pI (pI s v0 0 (gI s v1 0)) v0 1 (gI (pI s v0 0 (gI s v1 0)) v1 1)) v1 2)) v0 3 (gI (pI (pI (pI s v0 0 (gI s v1 0)) v0 1 (gI (pI s v0 0 (gI s v1 0)) v1 1)) v0 2 (gI (pI (pI s v0 0 (gI s v1 0)) v0 1 (gI (pI s v0 0 (gI s v1 0)) v1 1)) v1 2)) v1 3)) v1 4)) v1 5)) v0 6 (gL (pI (pI (pI (pI (pI (pI s v0 0 (gI s v1 0)) v0 1 (gI (pI s v0 0 (gI s v1 0)) v1 1)) v0 2 (gI (pI (pI s v0 0 (gI s v1 0)) v0 1 (gI (pI s v0 0 (gI s v1 0)) v1 1)) v1 2)) v0 3 (gI (pI (pI (pI s v0 0 (gI s v1 0)) v0 1 (gI (pI s v0 0 (gI s v1 0)) v1 1)) v0 2 (gI (pI (pI s v0 0 (gI s v1 0)) v0 1 (gI (pI s v0 0 (gI s v1 0)) v1 1)) v1 2)) v1 3)) v0 4 (gI (pI (pI (pI (pI s v0 0 (gI s v1 0)) v0 1 (gI (pI s v0 0 (gI s v1 0)) v1 1)) v0 2 (gI (pI (pI s v0 0 (gI s v1 0)) v0 1 (gI (pI s v0 0 (gI s v1 0)) v1 1)) v1 2)) v0 3 (gI (pI (pI (pI s v0 0 (gI s v1 0)) v0 1 (gI (pI s v0 0 (gI s v1 0)) v1 1)) v0 2 (gI (pI (pI s v0 0 (gI s v1 0)) v0 1 (gI (pI s v0 0 (gI s v1 0)) v1 1)) v1 2)) v1 3)) v1 4)) v0 5 (gI (pI (pI (pI (pI (pI s v0 0 (gI s v1 0)) v0 1 (gI (pI s v0 0 (gI s v1 0)) v1 1)) v0 2 (gI (pI (pI s v0 0 (gI s v1 0)) v0 1 (gI (pI s v0 0 (gI s v1 0)) v1 1)) v1 2)) v0 3 (gI (pI (pI (pI s v0 0 (gI s v1 0)) v0 1 (gI (pI s v0 0 (gI s v1 0)) v1 1)) v0 2 (gI (pI (pI s v0 0 (gI s v1 0)) v0 1 (gI (pI s v0 0 (gI s v1 0)) v1 1)) v1 2)) v1 3)) v0 4 (gI (pI (pI (pI (pI s v0 0 (gI s v1 0)) v0 1 (gI (pI s v0 0 (gI s v1 0)) v1 1)) v0 2 (gI (pI (pI s v0 0 (gI s v1 0)) v0 1 (gI (pI s v0 0 (gI s v1 0)) v1 1)) v1 2)) v0 3 (gI (pI (pI (pI s v0 0 (gI s v1 0)) v0 1 (gI (pI s v0 0 (gI s v1 0)) v1 1)) v0 2 (gI (pI (pI s v0 0 (gI s v1 0)) v0 1 (gI (pI s v0 0 (gI s v1 0)) v1 1)) v1 2)) v1 3)) v1 4)) v1 5)) v1 6)) v0 7 (gI (pL (pI (pI (pI (pI (pI (pI s v0 0 (gI s v1 0)) v0 1 (gI (pI s v0 0 (gI s v1 0)) v1 1)) v0 2 (gI (pI (pI s v0 0 (gI s v1 0)) v0 1 (gI (pI s v0 0 (gI s v1 0)) v1 1)) v1 2)) v0 3 (gI (pI (pI (pI s v0 0 (gI s v1 0)) v0 1 (gI (pI s v0 0 (gI s v1 0)) v1 1)) v0 2 (gI (pI (pI s v0 0 (gI s v1 0)) v0 1 (gI (pI s v0 0 (gI s v1 0)) v1 1)) v1 2)) v1 3)) v0 4 (gI (pI (pI (pI (pI s v0 0 (gI s v1 0)) v0 1 (gI (pI s v0 0 (gI s v1 0)) v1 1)) v0 2 (gI (pI (pI s v0 0 (gI s v1 0)) v0 1 (gI (pI s v0 0 (gI s v1 0)) v1 1)) v1 2)) v0 3 (gI (pI (pI (pI s v0 0 (gI s v1 0)) v0 1 (gI (pI s v0 0 (gI s v1 0)) v1 1)) v0 2 (gI (pI (pI s v0 0 (gI s v1 0)) v0 1 (gI (pI s v0 0 (gI s v1 0)) v1 1)) v1 2)) v1 3)) v1 4)) v0 5 (gI (pI (pI (pI (pI (pI s v0 0 (gI s v1 0)) v0 1 (gI (pI s v0 0 (gI s v1 0)) v1 1)) v0 2 (gI (pI (pI s v0 0 (gI s v1 0)) v0 1 (gI (pI s v0 0 (gI s v1 0)) v1 1)) v1 2)) v0 3 (gI (pI (pI (pI s v0 0 (gI s v1 0)) v0 1 (gI (pI s v0 0 (gI s v1 0)) v1 1)) v0 2 (gI (pI (pI s v0 0 (gI s v1 0)) v0 1 (gI (pI s v0 0 (gI s v1 0)) v1 1)) v1 2)) v1 3)) v0 4 (gI (pI (pI (pI (pI s v0 0 (gI s v1 0)) v0 1 (gI (pI s v0 0 (gI s v1 0)) v1 1)) v0 2 (gI (pI (pI s v0 0 (gI s v1 0)) v0 1 (gI (pI s v0 0 (gI s v1 0)) v1 1)) v1 2)) v0 3 (gI (pI (pI (pI s v0 0 (gI s v1 0)) v0 1 (gI (pI s v0 0 (gI s v1 0)) v1 1)) v0 2 (gI (pI (pI s v0 0 (gI s v1 0)) v0 1 (gI (pI s v0 0 (gI s v1 0)) v1 1)) v1 2)) v1 3)) v1 4)) v1 5)) v0 6 (gL (pI (pI (pI (pI (pI (pI s v0 0 (gI s v1 0)) v0 1 (gI (pI s v0 0 (gI s v1 0)) v1 1)) v0 2 (gI (pI (pI s v0 0 (gI s v1 0)) v0 1 (gI (pI s v0 0 (gI s v1 0)) v1 1)) v1 2)) v0 3 (gI (pI (pI (pI s v0 0 (gI s v1 0)) v0 1 (gI (pI s v0 0 (gI s v1 0)) v1 1)) v0 2 (gI (pI (pI s v0 0 (gI s v1 0)) v0 1 (gI (pI s v0 0 (gI s v1 0)) v1 1)) v1 2)) v1 3)) v0 4 (gI (pI (pI (pI (pI s v0 0 (gI s v1 0)) v0 1 (gI (pI s v0 0 (gI s v1 0)) v1 1)) v0 2 (gI (pI (pI s v0 0 (gI s v1 0)) v0 1 (gI (pI s v0 0 (gI s v1 0)) v1 1)) v1 2)) v0 3 (gI (pI (pI (pI s v0 0 (gI s v1 0)) v0 1 (gI (pI s v0 0 (gI s v1 0)) v1 1)) v0 2 (gI (pI (pI s v0 0 (gI s v1 0)) v0 1 (gI (pI s v0 0 (gI s v1 0)) v1 1)) v1 2)) v1 3)) v1 4)) v0 5 (gI (pI (pI (pI (pI (pI s v0 0 (gI s v1 0)) v0 1 (gI (pI s v0 0 (gI s v1 0)) v1 1)) v0 2 (gI (pI (pI s v0 0 (gI s v1 0)) v0 1 (gI (pI s v0 0 (gI s v1 0)) v1 1)) v1 2)) v0 3 (gI (pI (pI (pI s v0 0 (gI s v1 0)) v0 1 (gI (pI s v0 0 (gI s v1 0)) v1 1)) v0 2 (gI (pI (pI s v0 0 (gI s v1 0)) v0 1 (gI (pI s v0 0 (gI s v1 0)) v1 1)) v1 2)) v1 3)) v0 4 (gI (pI (pI (pI (pI s v0 0 (gI s v1 0)) v0 1 (gI (pI s v0 0 (gI s v1 0)) v1 1)) v0 2 (gI (pI (pI s v0 0 (gI s v1 0)) v0 1 (gI (pI s v0 0 (gI s v1 0)) v1 1)) v1 2)) v0 3 (gI (pI (pI (pI s v0 0 (gI s v1 0)) v0 1 (gI (pI s v0 0 (gI s v1 0)) v1 1)) v0 2 (gI (pI (pI s v0 0 (gI s v1 0)) v0 1 (gI (pI s v0 0 (gI s v1 0)) v1 1)) v1 2)) v1 3)) v1 4)) v1 5)) v1 6)) v1 7)) v0 8 (gI (pI (pL (pI (pI (pI (pI (pI (pI s v0 0 (gI s v1 0)) v0 1 (gI (pI s v0 0 (gI s v1 0)) v1 1)) v0 2 (gI (pI (pI s v0 0 (gI s v1 0)) v0 1 (gI (pI s v0 0 (gI s v1 0)) v1 1)) v1 2)) v0 3 (gI (pI (pI (pI s v0 0 (gI s v1 0)) v0 1 (gI (pI s v0 0 (gI s v1 0)) v1 1)) v0 2 (gI (pI (pI s v0 0 (gI s v1 0)) v0 1 (gI (pI s v0 0 (gI s v1 0)) v1 1)) v1 2)) v1 3)) v0 4 (gI (pI (pI (pI (pI s v0 0 (gI s v1 0)) v0 1 (gI (pI s v0 0 (gI s v1 0)) v1 1)) v0 2 (gI (pI (pI s v0 0 (gI s v1 0)) v0 1 (gI (pI s v0 0 (gI s v1 0)) v1 1)) v1 2)) v0 3 (gI (pI (pI (pI s v0 0 (gI s v1 0)) v0 1 (gI (pI s v0 0 (gI s v1 0)) v1 1)) v0 2 (gI (pI (pI s v0 0 (gI s v1 0)) v0 1 (gI (pI s v0 0 (gI s v1 0)) v1 1)) v1 2)) v1 3)) v1 4)) v0 5 (gI (pI (pI (pI (pI (pI s v0 0 (gI s v1 0)) v0 1 (gI (pI s v0 0 (gI s v1 0)) v1 1)) v0 2 (gI (pI (pI s v0 0 (gI s v1 0)) v0 1 (gI (pI s v0 0 (gI s v1 0)) v1 1)) v1 2)) v0 3 (gI (pI (pI (pI s v0 0 (gI s v1 0)) v0 1 (gI (pI s v0 0 (gI s v1 0)) v1 1)) v0 2 (gI (pI (pI s v0 0 (gI s v1 0)) v0 1 (gI (pI s v0 0 (gI s v1 0)) v1 1)) v1 2)) v1 3)) v0 4 (gI (pI (pI (pI (pI s v0 0 (gI s v1 0)) v0 1 (gI (pI s v0 0 (gI s v1 0)) v1 1)) v0 2 (gI (pI (pI s v0 0 (gI s v1 0)) v0 1 (gI (pI s v0 0 (gI s v1 0)) v1 1)) v1 2)) v0 3 (gI (pI (pI (pI s v0 0 (gI s v1 0)) v0 1 (gI (pI s v0 0 (gI s v1 0)) v1 1)) v0 2 (gI (pI (pI s v0 0 (gI s v1 0)) v0 1 (gI (pI s v0 0 (gI s v1 0)) v1 1)) v1 2)) v1 3)) v1 4)) v1 5)) v0 6 (gL (pI (pI (pI (pI (pI (pI s v0 0 (gI s v1 0)) v0 1 (gI (pI s v0 0 (gI s v1 0)) v1 1)) v0 2 (gI (pI (pI s v0 0 (gI s v1 0)) v0 1 (gI (pI s v0 0 (gI s v1 0)) v1 1)) v1 2)) v0 3 (gI (pI (pI (pI s v0 0 (gI s v1 0)) v0 1 (gI (pI s v0 0 (gI s v1 0)) v1 1)) v0 2 (gI (pI (pI s v0 0 (gI s v1 0)) v0 1 (gI (pI s v0 0 (gI s v1 0)) v1 1)) v1 2)) v1 3)) v0 4 (gI (pI (pI (pI (pI s v0 0 (gI s v1 0)) v0 1 (gI (pI s v0 0 (gI s v1 0)) v1 1)) v0 2 (gI (pI (pI s v0 0 (gI s v1 0)) v0 1 (gI (pI s v0 0 (gI s v1 0)) v1 1)) v1 2)) v0 3 (gI (pI (pI (pI s v0 0 (gI s v1 0)) v0 1 (gI (pI s v0 0 (gI s v1 0)) v1 1)) v0 2 (gI (pI (pI s v0 0 (gI s v1 0)) v0 1 (gI (pI s v0 0 (gI s v1 0)) v1 1)) v1 2)) v1 3)) v1 4)) v0 5 (gI (pI (pI (pI (pI (pI s v0 0 (gI s v1 0)) v0 1 (gI (pI s v0 0 (gI s v1 0)) v1 1)) v0 2 (gI (pI (pI s v0 0 (gI s v1 0)) v0 1 (gI (pI s v0 0 (gI s v1 0)) v1 1)) v1 2)) v0 3 (gI (pI (pI (pI s v0 0 (gI s v1 0)) v0 1 (gI (pI s v0 0 (gI s v1 0)) v1 1)) v0 2 (gI (pI (pI s v0 0 (gI s v1 0)) v0 1 (gI (pI s v0 0 (gI s v1 0)) v1 1)) v1 2)) v1 3)) v0 4 (gI (pI (pI (pI (pI s v0 0 (gI s v1 0)) v0 1 (gI (pI s v0 0 (gI s v1 0)) v1 1)) v0 2 (gI (pI (pI s v0 0 (gI s v1 0)) v0 1 (gI (pI s v0 0 (gI s v1 0)) v1 1)) v1 2)) v0 3 (gI (pI (pI (pI s v0 0 (gI s v1 0)) v0 1 (gI (pI s v0 0 (gI s v1 0)) v1 1)) v0 2 (gI (pI (pI s v0 0 (gI s v1 0)) v0 1 (gI (pI s v0 0 (gI s v1 0)) v1 1)) v1 2)) v1 3)) v1 4)) v1 5)) v1 6)) v0 7 (gI (pL (pI (pI (pI (pI (pI (pI s v0 0 (gI s v1 0)) v0 1 (gI (pI s v0 0 (gI s v1 0)) v1 1)) v0 2 (gI (pI (pI s v0 0 (gI s v1 0)) v0 1 (gI (pI s v0 0 (gI s v1 0)) v1 1)) v1 2)) v0 3 (gI (pI (pI (pI s v0 0 (gI s v1 0)) v0 1 (gI (pI s v0 0 (gI s v1 0)) v1 1)) v0 2 (gI (pI (pI s v0 0 (gI s v1 0)) v0 1 (gI (pI s v0 0 (gI s v1 0)) v1 1)) v1 2)) v1 3)) v0 4 (gI (pI (pI (pI (pI s v0 0 (gI s v1 0)) v0 1 (gI (pI s v0 0 (gI s v1 0)) v1 1)) v0 2 (gI (pI (pI s v0 0 (gI s v1 0)) v0 1 (gI (pI s v0 0 (gI s v1 0)) v1 1)) v1 2)) v0 3 (gI (pI (pI (pI s v0 0 (gI s v1 0)) v0 1 (gI (pI s v0 0 (gI s v1 0)) v1 1)) v0 2 (gI (pI (pI s v0 0 (gI s v1 0)) v0 1 (gI (pI s v0 0 (gI s v1 0)) v1 1)) v1 2)) v1 3)) v1 4)) v0 5 (gI (pI (pI (pI (pI (pI s v0 0 (gI s v1 0)) v0 1 (gI (pI s v0 0 (gI s v1 0)) v1 1)) v0 2 (gI (pI (pI s v0 0 (gI s v1 0)) v0 1 (gI (pI s v0 0 (gI s v1 0)) v1 1)) v1 2)) v0 3 (gI (pI (pI (pI s v0 0 (gI s v1 0)) v0 1 (gI (pI s v0 0 (gI s v1 0)) v1 1)) v0 2 (gI (pI (pI s v0 0 (gI s v1 0)) v0 1 (gI (pI s v0 0 (gI s v1 0)) v1 1)) v1 2)) v1 3)) v0 4 (gI (pI (pI (pI (pI s v0 0 (gI s v1 0)) v0 1 (gI (pI s v0 0 (gI s v1 0)) v1 1)) v0 2 (gI (pI (pI s v0 0 (gI s v1 0)) v0 1 (gI (pI s v0 0 (gI s v1 0)) v1 1)) v1 2)) v0 3 (gI (pI (pI (pI s v0 0 (gI s v1 0)) v0 1 (gI (pI s v0 0 (gI s v1 0)) v1 1)) v0 2 (gI (pI (pI s v0 0 (gI s v1 0)) v0 1 (gI (pI s v0 0 (gI s v1 0)) v1 1)) v1 2)) v1 3)) v1 4)) v1 5)) v0 6 (gL (pI (pI (pI (pI (pI (pI s v0 0 (gI s v1 0)) v0 1 (gI (pI s v0 0 (gI s v1 0)) v1 1)) v0 2 (gI (pI (pI s v0 0 (gI s v1 0)) v0 1 (gI (pI s v0 0 (gI s v1 0)) v1 1)) v1 2)) v0 3 (gI (pI (pI (pI s v0 0 (gI s v1 0)) v0 1 (gI (pI s v0 0 (gI s v1 0)) v1 1)) v0 2 (gI (pI (pI s v0 0 (gI s v1 0)) v0 1 (gI (pI s v0 0 (gI s v1 0)) v1 1)) v1 2)) v1 3)) v0 4 (gI (pI (pI (pI (pI s v0 0 (gI s v1 0)) v0 1 (gI (pI s v0 0 (gI s v1 0)) v1 1)) v0 2 (gI (pI (pI s v0 0 (gI s v1 0)) v0 1 (gI (pI s v0 0 (gI s v1 0)) v1 1)) v1 2)) v0 3 (gI (pI (pI (pI s v0 0 (gI s v1 0)) v0 1 (gI (pI s v0 0 (gI s v1 0)) v1 1)) v0 2 (gI (pI (pI s v0 0 (gI s v1 0)) v0 1 (gI (pI s v0 0 (gI s v1 0)) v1 1)) v1 2)) v1 3)) v1 4)) v0 5 (gI (pI (pI (pI (pI (pI s v0 0 (gI s v1 0)) v0 1 (gI (pI s v0 0 (gI s v1 0)) v1 1)) v0 2 (gI (pI (pI s v0 0 (gI s v1 0)) v0 1 (gI (pI s v0 0 (gI s v1 0)) v1 1)) v1 2)) v0 3 (gI (pI (pI (pI s v0 0 (gI s v1 0)) v0 1 (gI (pI s v0 0 (gI s v1 0)) v1 1)) v0 2 (gI (pI (pI s v0 0 (gI s v1 0)) v0 1 (gI (pI s v0 0 (gI s v1 0)) v1 1)) v1 2)) v1 3)) v0 4 (gI (pI (pI (pI (pI s v0 0 (gI s v1 0)) v0 1 (gI (pI s v0 0 (gI s v1 0)) v1 1)) v0 2 (gI (pI (pI s v0 0 (gI s v1 0)) v0 1 (gI (pI s v0 0 (gI s v1 0)) v1 1)) v1 2)) v0 3 (gI (pI (pI (pI s v0 0 (gI s v1 0)) v0 1 (gI (pI s v0 0 (gI s v1 0)) v1 1)) v0 2 (gI (pI (pI s v0 0 (gI s v1 0)) v0 1 (gI (pI s v0 0 (gI s v1 0)) v1 1)) v1 2)) v1 3)) v1 4)) v1 5)) v1 6)) v1 7)) v1 8)) v0 9 (gI (pI (pI (pL (pI (pI (pI (pI (pI (pI s v0 0 (gI s v1 0)) v0 1 (gI (pI s v0 0 (gI s v1 0)) v1 1)) v0 2 (gI (pI (pI s v0 0 (gI s v1 0)) v0 1 (gI (pI s v0 0 (gI s v1 0)) v1 1)) v1 2)) v0 3 (gI (pI (pI (pI s v0 0 (gI s v1 0)) v0 1 (gI (pI s v0 0 (gI s v1 0)) v1 1)) v0 2 (gI (pI (pI s v0 0 (gI s v1 0)) v0 1 (gI (pI s v0 0 (gI s v1 0)) v1 1)) v1 2)) v1 3)) v0 4 (gI (pI (pI (pI (pI s v0 0 (gI s v1 0)) v0 1 (gI (pI s v0 0 (gI s v1 0)) v1 1)) v0 2 (gI (pI (pI s v0 0 (gI s v1 0)) v0 1 (gI (pI s v0 0 (gI s v1 0)) v1 1)) v1 2)) v0 3 (gI (pI (pI (pI s v0 0 (gI s v1 0)) v0 1 (gI (pI s v0 0 (gI s v1 0)) v1 1)) v0 2 (gI (pI (pI s v0 0 (gI s v1 0)) v0 1 (gI (pI s v0 0 (gI s v1 0)) v1 1)) v1 2)) v1 3)) v1 4)) v0 5 (gI (pI (pI (pI (pI (pI s v0 0 (gI s v1 0)) v0 1 (gI (pI s v0 0 (gI s v1 0)) v1 1)) v0 2 (gI (pI (pI s v0 0 (gI s v1 0)) v0 1 (gI (pI s v0 0 (gI s v1 0)) v1 1)) v1 2)) v0 3 (gI (pI (pI (pI s v0 0 (gI s v1 0)) v0 1 (gI (pI s v0 0 (gI s v1 0)) v1 1)) v0 2 (gI (pI (pI s v0 0 (gI s v1 0)) v0 1 (gI (pI s v0 0 (gI s v1 0)) v1 1)) v1 2)) v1 3)) v0 4 (gI (pI (pI (pI (pI s v0 0 (gI s v1 0)) v0 1 (gI (pI s v0 0 (gI s v1 0)) v1 1)) v0 2 (gI (pI (pI s v0 0 (gI s v1 0)) v0 1 (gI (pI s v0 0 (gI s v1 0)) v1 1)) v1 2)) v0 3 (gI (pI (pI (pI s v0 0 (gI s v1 0)) v0 1 (gI (pI s v0 0 (gI s v1 0)) v1 1)) v0 2 (gI (pI (pI s v0 0 (gI s v1 0)) v0 1 (gI (pI s v0 0 (gI s v1 0)) v1 1)) v1 2)) v1 3)) v1 4)) v1 5)) v0 6 (gL (pI (pI (pI (pI (pI (pI s v0 0 (gI s v1 0)) v0 1 (gI (pI s v0 0 (gI s v1 0)) v1 1)) v0 2 (gI (pI (pI s v0 0 (gI s v1 0)) v0 1 (gI (pI s v0 0 (gI s v1 0)) v1 1)) v1 2)) v0 3 (gI (pI (pI (pI s v0 0 (gI s v1 0)) v0 1 (gI (pI s v0 0 (gI s v1 0)) v1 1)) v0 2 (gI (pI (pI s v0 0 (gI s v1 0)) v0 1 (gI (pI s v0 0 (gI s v1 0)) v1 1)) v1 2)) v1 3)) v0 4 (gI (pI (pI (pI (pI s v0 0 (gI s v1 0)) v0 1 (gI (pI s v0 0 (gI s v1 0)) v1 1)) v0 2 (gI (pI (pI s v0 0 (gI s v1 0)) v0 1 (gI (pI s v0 0 (gI s v1 0)) v1 1)) v1 2)) v0 3 (gI (pI (pI (pI s v0 0 (gI s v1 0)) v0 1 (gI (pI s v0 0 (gI s v1 0)) v1 1)) v0 2 (gI (pI (pI s v0 0 (gI s v1 0)) v0 1 (gI (pI s v0 0 (gI s v1 0)) v1 1)) v1 2)) v1 3)) v1 4)) v0 5 (gI (pI (pI (pI (pI (pI s v0 0 (gI s v1 0)) v0 1 (gI (pI s v0 0 (gI s v1 0)) v1 1)) v0 2 (gI (pI (pI s v0 0 (gI s v1 0)) v0 1 (gI (pI s v0 0 (gI s v1 0)) v1 1)) v1 2)) v0 3 (gI (pI (pI (pI s v0 0 (gI s v1 0)) v0 1 (gI (pI s v0 0 (gI s v1 0)) v1 1)) v0 2 (gI (pI (pI s v0 0 (gI s v1 0)) v0 1 (gI (pI s v0 0 (gI s v1 0)) v1 1)) v1 2)) v1 3)) v0 4 (gI (pI (pI (pI (pI s v0 0 (gI s v1 0)) v0 1 (gI (pI s v0 0 (gI s v1 0)) v1 1)) v0 2 (gI (pI (pI s v0 0 (gI s v1 0)) v0 1 (gI (pI s v0 0 (gI s v1 0)) v1 1)) v1 2)) v0 3 (gI (pI (pI (pI s v0 0 (gI s v1 0)) v0 1 (gI (pI s v0 0 (gI s v1 0)) v1 1)) v0 2 (gI (pI (pI s v0 0 (gI s v1 0)) v0 1 (gI (pI s v0 0 (gI s v1 0)) v1 1)) v1 2)) v1 3)) v1 4)) v1 5)) v1 6)) v0 7 (gI (pL (pI (pI (pI (pI (pI (pI s v0 0 (gI s v1 0)) v0 1 (gI (pI s v0 0 (gI s v1 0)) v1 1)) v0 2 (gI (pI (pI s v0 0 (gI s v1 0)) v0 1 (gI (pI s v0 0 (gI s v1 0)) v1 1)) v1 2)) v0 3 (gI (pI (pI (pI s v0 0 (gI s v1 0)) v0 1 (gI (pI s v0 0 (gI s v1 0)) v1 1)) v0 2 (gI (pI (pI s v0 0 (gI s v1 0)) v0 1 (gI (pI s v0 0 (gI s v1 0)) v1 1)) v1 2)) v1 3)) v0 4 (gI (pI (pI (pI (pI s v0 0 (gI s v1 0)) v0 1 (gI (pI s v0 0 (gI s v1 0)) v1 1)) v0 2 (gI (pI (pI s v0 0 (gI s v1 0)) v0 1 (gI (pI s v0 0 (gI s v1 0)) v1 1)) v1 2)) v0 3 (gI (pI (pI (pI s v0 0 (gI s v1 0)) v0 1 (gI (pI s v0 0 (gI s v1 0)) v1 1)) v0 2 (gI (pI (pI s v0 0 (gI s v1 0)) v0 1 (gI (pI s v0 0 (gI s v1 0)) v1 1)) v1 2)) v1 3)) v1 4)) v0 5 (gI (pI (pI (pI (pI (pI s v0 0 (gI s v1 0)) v0 1 (gI (pI s v0 0 (gI s v1 0)) v1 1)) v0 2 (gI (pI (pI s v0 0 (gI s v1 0)) v0 1 (gI (pI s v0 0 (gI s v1 0)) v1 1)) v1 2)) v0 3 (gI (pI (pI (pI s v0 0 (gI s v1 0)) v0 1 (gI (pI s v0 0 (gI s v1 0)) v1 1)) v0 2 (gI (pI (pI s v0 0 (gI s v1 0)) v0 1 (gI (pI s v0 0 (gI s v1 0)) v1 1)) v1 2)) v1 3)) v0 4 (gI (pI (pI (pI (pI s v0 0 (gI s v1 0)) v0 1 (gI (pI s v0 0 (gI s v1 0)) v1 1)) v0 2 (gI (pI (pI s v0 0 (gI s v1 0)) v0 1 (gI (pI s v0 0 (gI s v1 0)) v1 1)) v1 2)) v0 3 (gI (pI (pI (pI s v0 0 (gI s v1 0)) v0 1 (gI (pI s v0 0 (gI s v1 0)) v1 1)) v0 2 (gI (pI (pI s v0 0 (gI s v1 0)) v0 1 (gI (pI s v0 0 (gI s v1 0)) v1 1)) v1 2)) v1 3)) v1 4)) v1 5)) v0 6 (gL (pI (pI (pI (pI (pI (pI s v0 0 (gI s v1 0)) v0 1 (gI (pI s v0 0 (gI s v1 0)) v1 1)) v0 2 (gI (pI (pI s v0 0 (gI s v1 0)) v0 1 (gI (pI s v0 0 (gI s v1 0)) v1 1)) v1 2)) v0 3 (gI (pI (pI (pI s v0 0 (gI s v1 0)) v0 1 (gI (pI s v0 0 (gI s v1 0)) v1 1)) v0 2 (gI (pI (pI s v0 0 (gI s v1 0)) v0 1 (gI (pI s v0 0 (gI s v1 0)) v1 1)) v1 2)) v1 3)) v0 4 (gI (pI (pI (pI (pI s v0 0 (gI s v1 0)) v0 1 (gI (pI s v0 0 (gI s v1 0)) v1 1)) v0 2 (gI (pI (pI s v0 0 (gI s v1 0)) v0 1 (gI (pI s v0 0 (gI s v1 0)) v1 1)) v1 2)) v0 3 (gI (pI (pI (pI s v0 0 (gI s v1 0)) v0 1 (gI (pI s v0 0 (gI s v1 0)) v1 1)) v0 2 (gI (pI (pI s v0 0 (gI s v1 0)) v0 1 (gI (pI s v0 0 (gI s v1 0)) v1 1)) v1 2)) v1 3)) v1 4)) v0 5 (gI (pI (pI (pI (pI (pI s v0 0 (gI s v1 0)) v0 1 (gI (pI s v0 0 (gI s v1 0)) v1 1)) v0 2 (gI (pI (pI s v0 0 (gI s v1 0)) v0 1 (gI (pI s v0 0 (gI s v1 0)) v1 1)) v1 2)) v0 3 (gI (pI (pI (pI s v0 0 (gI s v1 0)) v0 1 (gI (pI s v0 0 (gI s v1 0)) v1 1)) v0 2 (gI (pI (pI s v0 0 (gI s v1 0)) v0 1 (gI (pI s v0 0 (gI s v1 0)) v1 1)) v1 2)) v1 3)) v0 4 (gI (pI (pI (pI (pI s v0 0 (gI s v1 0)) v0 1 (gI (pI s v0 0 (gI s v1 0)) v1 1)) v0 2 (gI (pI (pI s v0 0 (gI s v1 0)) v0 1 (gI (pI s v0 0 (gI s v1 0)) v1 1)) v1 2)) v0 3 (gI (pI (pI (pI s v0 0 (gI s v1 0)) v0 1 (gI (pI s v0 0 (gI s v1 0)) v1 1)) v0 2 (gI (pI (pI s v0 0 (gI s v1 0)) v0 1 (gI (pI s v0 0 (gI s v1 0)) v1 1)) v1 2)) v1 3)) v1 4)) v1 5)) v1 6)) v1 7)) v0 8 (gI (pI (pL (pI (pI (pI (pI (pI (pI s v0 0 (gI s v1 0)) v0 1 (gI (pI s v0 0 (gI s v1 0)) v1 1)) v0 2 (gI (pI (pI s v0 0 (gI s v1 0)) v0 1 (gI (pI s v0 0 (gI s v1 0)) v1 1)) v1 2)) v0 3 (gI (pI (pI (pI s v0 0 (gI s v1 0)) v0 1 (gI (pI s v0 0 (gI s v1 0)) v1 1)) v0 2 (gI (pI (pI s v0 0 (gI s v1 0)) v0 1 (gI (pI s v0 0 (gI s v1 0)) v1 1)) v1 2)) v1 3)) v0 4 (gI (pI (pI (pI (pI s v0 0 (gI s v1 0)) v0 1 (gI (pI s v0 0 (gI s v1 0)) v1 1)) v0 2 (gI (pI (pI s v0 0 (gI s v1 0)) v0 1 (gI (pI s v0 0 (gI s v1 0)) v1 1)) v1 2)) v0 3 (gI (pI (pI (pI s v0 0 (gI s v1 0)) v0 1 (gI (pI s v0 0 (gI s v1 0)) v1 1)) v0 2 (gI (pI (pI s v0 0 (gI s v1 0)) v0 1 (gI (pI s v0 0 (gI s v1 0)) v1 1)) v1 2)) v1 3)) v1 4)) v0 5 (gI (pI (pI (pI (pI (pI s v0 0 (gI s v1 0)) v0 1 (gI (pI s v0 0 (gI s v1 0)) v1 1)) v0 2 (gI (pI (pI s v0 0 (gI s v1 0)) v0 1 (gI (pI s v0 0 (gI s v1 0)) v1 1)) v1 2)) v0 3 (gI (pI (pI (pI s v0 0 (gI s v1 0)) v0 1 (gI (pI s v0 0 (gI s v1 0)) v1 1)) v0 2 (gI (pI (pI s v0 0 (gI s v1 0)) v0 1 (gI (pI s v0 0 (gI s v1 0)) v1 1)) v1 2)) v1 3)) v0 4 (gI (pI (pI (pI (pI s v0 0 (gI s v1 0)) v0 1 (gI (pI s v0 0 (gI s v1 0)) v1 1)) v0 2 (gI (pI (pI s v0 0 (gI s v1 0)) v0 1 (gI (pI s v0 0 (gI s v1 0)) v1 1)) v1 2)) v0 3 (gI (pI (pI (pI s v0 0 (gI s v1 0)) v0 1 (gI (pI s v0 0 (gI s v1 0)) v1 1)) v0 2 (gI (pI (pI s v0 0 (gI s v1 0)) v0 1 (gI (pI s v0 0 (gI s v1 0)) v1 1)) v1 2)) v1 3)) v1 4)) v1 5)) v0 6 (gL (pI (pI (pI (pI (pI (pI s v0 0 (gI s v1 0)) v0 1 (gI (pI s v0 0 (gI s v1 0)) v1 1)) v0 2 (gI (pI (pI s v0 0 (gI s v1 0)) v0 1 (gI (pI s v0 0 (gI s v1 0)) v1 1)) v1 2)) v0 3 (gI (pI (pI (pI s v0 0 (gI s v1 0)) v0 1 (gI (pI s v0 0 (gI s v1 0)) v1 1)) v0 2 (gI (pI (pI s v0 0 (gI s v1 0)) v0 1 (gI (pI s v0 0 (gI s v1 0)) v1 1)) v1 2)) v1 3)) v0 4 (gI (pI (pI (pI (pI s v0 0 (gI s v1 0)) v0 1 (gI (pI s v0 0 (gI s v1 0)) v1 1)) v0 2 (gI (pI (pI s v0 0 (gI s v1 0)) v0 1 (gI (pI s v0 0 (gI s v1 0)) v1 1)) v1 2)) v0 3 (gI (pI (pI (pI s v0 0 (gI s v1 0)) v0 1 (gI (pI s v0 0 (gI s v1 0)) v1 1)) v0 2 (gI (pI (pI s v0 0 (gI s v1 0)) v0 1 (gI (pI s v0 0 (gI s v1 0)) v1 1)) v1 2)) v1 3)) v1 4)) v0 5 (gI (pI (pI (pI (pI (pI s v0 0 (gI s v1 0)) v0 1 (gI (pI s v0 0 (gI s v1 0)) v1 1)) v0 2 (gI (pI (pI s v0 0 (gI s v1 0)) v0 1 (gI (pI s v0 0 (gI s v1 0)) v1 1)) v1 2)) v0 3 (gI (pI (pI (pI s v0 0 (gI s v1 0)) v0 1 (gI (pI s v0 0 (gI s v1 0)) v1 1)) v0 2 (gI (pI (pI s v0 0 (gI s v1 0)) v0 1 (gI (pI s v0 0 (gI s v1 0)) v1 1)) v1 2)) v1 3)) v0 4 (gI (pI (pI (pI (pI s v0 0 (gI s v1 0)) v0 1 (gI (pI s v0 0 (gI s v1 0)) v1 1)) v0 2 (gI (pI (pI s v0 0 (gI s v1 0)) v0 1 (gI (pI s v0 0 (gI s v1 0)) v1 1)) v1 2)) v0 3 (gI (pI (pI (pI s v0 0 (gI s v1 0)) v0 1 (gI (pI s v0 0 (gI s v1 0)) v1 1)) v0 2 (gI (pI (pI s v0 0 (gI s v1 0)) v0 1 (gI (pI s v0 0 (gI s v1 0)) v1 1)) v1 2)) v1 3)) v1 4)) v1 5)) v1 6)) v0 7 (gI (pL (pI (pI (pI (pI (pI (pI s v0 0 (gI s v1 0)) v0 1 (gI (pI s v0 0 (gI s v1 0)) v1 1)) v0 2 (gI (pI (pI s v0 0 (gI s v1 0)) v0 1 (gI (pI s v0 0 (gI s v1 0)) v1 1)) v1 2)) v0 3 (gI (pI (pI (pI s v0 0 (gI s v1 0)) v0 1 (gI (pI s v0 0 (gI s v1 0)) v1 1)) v0 2 (gI (pI (pI s v0 0 (gI s v1 0)) v0 1 (gI (pI s v0 0 (gI s v1 0)) v1 1)) v1 2)) v1 3)) v0 4 (gI (pI (pI (pI (pI s v0 0 (gI s v1 0)) v0 1 (gI (pI s v0 0 (gI s v1 0)) v1 1)) v0 2 (gI (pI (pI s v0 0 (gI s v1 0)) v0 1 (gI (pI s v0 0 (gI s v1 0)) v1 1)) v1 2)) v0 3 (gI (pI (pI (pI s v0 0 (gI s v1 0)) v0 1 (gI (pI s v0 0 (gI s v1 0)) v1 1)) v0 2 (gI (pI (pI s v0 0 (gI s v1 0)) v0 1 (gI (pI s v0 0 (gI s v1 0)) v1 1)) v1 2)) v1 3)) v1 4)) v0 5 (gI (pI (pI (pI (pI (pI s v0 0 (gI s v1 0)) v0 1 (gI (pI s v0 0 (gI s v1 0)) v1 1)) v0 2 (gI (pI (pI s v0 0 (gI s v1 0)) v0 1 (gI (pI s v0 0 (gI s v1 0)) v1 1)) v1 2)) v0 3 (gI (pI (pI (pI s v0 0 (gI s v1 0)) v0 1 (gI (pI s v0 0 (gI s v1 0)) v1 1)) v0 2 (gI (pI (pI s v0 0 (gI s v1 0)) v0 1 (gI (pI s v0 0 (gI s v1 0)) v1 1)) v1 2)) v1 3)) v0 4 (gI (pI (pI (pI (pI s v0 0 (gI s v1 0)) v0 1 (gI (pI s v0 0 (gI s v1 0)) v1 1)) v0 2 (gI (pI (pI s v0 0 (gI s v1 0)) v0 1 (gI (pI s v0 0 (gI s v1 0)) v1 1)) v1 2)) v0 3 (gI (pI (pI (pI s v0 0 (gI s v1 0)) v0 1 (gI (pI s v0 0 (gI s v1 0)) v1 1)) v0 2 (gI (pI (pI s v0 0 (gI s v1 0)) v0 1 (gI (pI s v0 0 (gI s v1 0)) v1 1)) v1 2)) v1 3)) v1 4)) v1 5)) v0 6 (gL (pI (pI (pI (pI (pI (pI s v0 0 (gI s v1 0)) v0 1 (gI (pI s v0 0 (gI s v1 0)) v1 1)) v0 2 (gI (pI (pI s v0 0 (gI s v1 0)) v0 1 (gI (pI s v0 0 (gI s v1 0)) v1 1)) v1 2)) v0 3 (gI (pI (pI (pI s v0 0 (gI s v1 0)) v0 1 (gI (pI s v0 0 (gI s v1 0)) v1 1)) v0 2 (gI (pI (pI s v0 0 (gI s v1 0)) v0 1 (gI (pI s v0 0 (gI s v1 0)) v1 1)) v1 2)) v1 3)) v0 4 (gI (pI (pI (pI (pI s v0 0 (gI s v1 0)) v0 1 (gI (pI s v0 0 (gI s v1 0)) v1 1)) v0 2 (gI (pI (pI s v0 0 (gI s v1 0)) v0 1 (gI (pI s v0 0 (gI s v1 0)) v1 1)) v1 2)) v0 3 (gI (pI (pI (pI s v0 0 (gI s v1 0)) v0 1 (gI (pI s v0 0 (gI s v1 0)) v1 1)) v0 2 (gI (pI (pI s v0 0 (gI s v1 0)) v0 1 (gI (pI s v0 0 (gI s v1 0)) v1 1)) v1 2)) v1 3)) v1 4)) v0 5 (gI (pI (pI (pI (pI (pI s v0 0 (gI s v1 0)) v0 1 (gI (pI s v0 0 (gI s v1 0)) v1 1)) v0 2 (gI (pI (pI s v0 0 (gI s v1 0)) v0 1 (gI (pI s v0 0 (gI s v1 0)) v1 1)) v1 2)) v0 3 (gI (pI (pI (pI s v0 0 (gI s v1 0)) v0 1 (gI (pI s v0 0 (gI s v1 0)) v1 1)) v0 2 (gI (pI (pI s v0 0 (gI s v1 0)) v0 1 (gI (pI s v0 0 (gI s v1 0)) v1 1)) v1 2)) v1 3)) v0 4 (gI (pI (pI (pI (pI s v0 0 (gI s v1 0)) v0 1 (gI (pI s v0 0 (gI s v1 0)) v1 1)) v0 2 (gI (pI (pI s v0 0 (gI s v1 0)) v0 1 (gI (pI s v0 0 (gI s v1 0)) v1 1)) v1 2)) v0 3 (gI (pI (pI (pI s v0 0 (gI s v1 0)) v0 1 (gI (pI s v0 0 (gI s v1 0)) v1 1)) v0 2 (gI (pI (pI s v0 0 (gI s v1 0)) v0 1 (gI (pI s v0 0 (gI s v1 0)) v1 1)) v1 2)) v1 3)) v1 4)) v1 5)) v1 6)) v1 7)) v1 8)) v1 9)) v1 10))
def F_X6_copyFrom (fl : Nat) (v0 : Nat) (v1 : Nat) (s : Mem) : Option Mem :=
  some (pI (pI (pI s v0 0 (gI s v1 0)) v0 1 (gI (pI s v0 0 (gI s v1 0)) v1 1)) v0 2 (gI (pI (pI s v0 0 (gI s v1 0)) v0 1 (gI (pI s v0 0 (gI s v1 0)) v1 1)) v1 2))
def B_X1_copyFrom_119 (fl : Nat) : Nat → Nat → Nat → Int32 → Mem → Option Mem
  | 0 => fun _ _ _ _ => none
  | n + 1 => fun v0 v1 v2 s =>
    if (3 : Int32) ≤ v2 then (
      some (pI (pI s v0 7 (gI s v1 7)) v0 8 (gI (pI s v0 7 (gI s v1 7)) v1 8)))
    else
    bd (ldA s v0 6 0) fun r2 =>
    bd (ldA s v1 6 0) fun r4 =>
    gd (inR v2 r4.2) <|
    gd (inR v2 r2.2) <|
    B_X1_copyFrom_119 fl n v0 v1 (v2 + (1 : Int32)) (pI s r2.1 v2.toNatClampNeg (gI s r4.1 v2.toNatClampNeg))
def B_X1_copyFrom_88 (fl : Nat) : Nat → Nat → Nat → Int32 → Mem → Option Mem
  | 0 => fun _ _ _ _ => none
  | n + 1 => fun v0 v1 v2 s =>
    if (gI s v0 5) ≤ v2 then (
      B_X1_copyFrom_119 fl fl v0 v1 (0 : Int32) s)
    else
    bd (ldA s v0 4 6) fun r9 =>
    gd (inR v2 r9.2) <|
    bd (ldO s r9.1 v2.toNatClampNeg 8) fun r12 =>
    bd (ldA s v1 4 6) fun r14 =>
    gd (inR v2 r14.2) <|
    bd (ldO s r14.1 v2.toNatClampNeg 8) fun r17 =>
    bd (F_X6_copyFrom fl r12 r17 s) fun q19 =>
    B_X1_copyFrom_88 fl n v0 v1 (v2 + (1 : Int32)) q19
def B_X1_copyFrom_49 (fl : Nat) : Nat → Nat → Nat → Int32 → Mem → Option Mem
  | 0 => fun _ _ _ _ => none
  | n + 1 => fun v0 v1 v2 s =>
    if (gI s v0 3) ≤ v2 then (
      B_X1_copyFrom_88 fl fl v0 v1 (0 : Int32) (pI s v0 5 (gI s v1 5)))
    else
    bd (ldA s v0 2 5) fun r22 =>
    gd (inR v2 r22.2) <|
    bd (ldO s r22.1 v2.toNatClampNeg 5) fun r25 =>
    bd (ldA s v1 2 5) fun r27 =>
    gd (inR v2 r27.2) <|
    bd (ldO s r27.1 v2.toNatClampNeg 5) fun r30 =>
    bd (F_X3_copyFrom fl r25 r30 s) fun q32 =>
    B_X1_copyFrom_49 fl n v0 v1 (v2 + (1 : Int32)) q32
def B_X1_copyFrom_10 (fl : Nat) : Nat → Nat → Nat → Int32 → Mem → Option Mem
  | 0 => fun _ _ _ _ => none
  | n + 1 => fun v0 v1 v2 s =>
    if (gI s v0 1) ≤ v2 then (
      B_X1_copyFrom_49 fl fl v0 v1 (0 : Int32) (pI s v0 3 (gI s v1 3)))
    else
    bd (ldA s v0 0 4) fun r35 =>
    gd (inR v2 r35.2) <|
    bd (ldO s r35.1 v2.toNatClampNeg 6) fun r38 =>
    bd (ldA s v1 0 4) fun r40 =>
    gd (inR v2 r40.2) <|
    bd (ldO s r40.1 v2.toNatClampNeg 6) fun r43 =>
    bd (F_X4_copyFrom fl r38 r43 s) fun q45 =>
    B_X1_copyFrom_10 fl n v0 v1 (v2 + (1 : Int32)) q45
def F_X1_copyFrom (fl : Nat) (v0 : Nat) (v1 : Nat) (s : Mem) : Option Mem :=
  B_X1_copyFrom_10 fl fl v0 v1 (0 : Int32) (pI s v0 1 (gI s v1 1))
def F_X1_hasPitch (fl : Nat) (v0 : Nat) (v1 : Int32) (s : Mem) : Option Int32 :=
  if v1 < 0 then (
    some (0 : Int32))
  else
  if (gI s v0 1) ≤ v1 then (
    some (0 : Int32))
  else
  some (1 : Int32)
def F_X1_circuitOf (fl : Nat) (v0 : Nat) (v1 : Int32) (s : Mem) : Option Int32 :=
  if v1 < 0 then (
    some (-1 : Int32))
  else
  if (gI s v0 1) ≤ v1 then (
    some (-1 : Int32))
  else
  bd (ldA s v0 0 4) fun r3 =>
  gd (inR v1 r3.2) <|
  bd (ldO s r3.1 v1.toNatClampNeg 6) fun r6 =>
  some (gI s r6 3)
def F_X1_rateOf (fl : Nat) (v0 : Nat) (v1 : Int32) (s : Mem) : Option Int32 :=
  bd (F_X1_hasPitch fl v0 v1 s) fun q1 =>
  if q1 = 0 then (
    some (0 : Int32))
  else
  bd (ldA s v0 0 4) fun r4 =>
  gd (inR v1 r4.2) <|
  bd (ldO s r4.1 v1.toNatClampNeg 6) fun r7 =>
  some (gI s r7 4)
def F_X1_areaOf (fl : Nat) (v0 : Nat) (v1 : Int32) (s : Mem) : Option Int32 :=
  bd (F_X1_hasPitch fl v0 v1 s) fun q1 =>
  if q1 = 0 then (
    some (0 : Int32))
  else
  bd (ldA s v0 0 4) fun r4 =>
  gd (inR v1 r4.2) <|
  bd (ldO s r4.1 v1.toNatClampNeg 6) fun r7 =>
  bd (ldA s v0 0 4) fun r9 =>
  gd (inR v1 r9.2) <|
  bd (ldO s r9.1 v1.toNatClampNeg 6) fun r12 =>
  some ((gI s r7 1) * (gI s r12 2))
def B_X4_takes_75 (fl : Nat) (s : Mem) (v0 : Nat) (v1 : Nat) : Option Int32 :=
  if (gI s v1 3) = 0 then (
    some (1 : Int32))
  else
  if (gI s v0 3) = (-1 : Int32) then (
    some (0 : Int32))
  else
  some (1 : Int32)
def B_X4_takes_55 (fl : Nat) (s : Mem) (v0 : Nat) (v1 : Nat) (v2 : Int32) (w0 : Int32) : Option Int32 :=
  if (gI s v0 0) < (gI s v1 0) then (
    some (0 : Int32))
  else
  if v2 = 0 then (
    if w0 = 0 then (
      some (0 : Int32))
    else
    B_X4_takes_75 fl s v0 v1)
  else
  B_X4_takes_75 fl s v0 v1
def B_X4_takes_54 (fl : Nat) (s : Mem) (v0 : Nat) (v1 : Nat) (v2 : Int32) : Option Int32 :=
  B_X4_takes_55 fl s v0 v1 v2 (0 : Int32)
def B_X4_takes_27 (fl : Nat) (s : Mem) (v0 : Nat) (v1 : Nat) (w0 : Int32) : Option Int32 :=
  if (gI s v0 1) < (gI s v1 2) then (
    B_X4_takes_54 fl s v0 v1 w0)
  else
  if (gI s v0 2) < (gI s v1 1) then (
    B_X4_takes_54 fl s v0 v1 w0)
  else
  B_X4_takes_55 fl s v0 v1 w0 (1 : Int32)
def B_X4_takes_26 (fl : Nat) (s : Mem) (v0 : Nat) (v1 : Nat) : Option Int32 :=
  B_X4_takes_27 fl s v0 v1 (0 : Int32)
def F_X4_takes (fl : Nat) (v0 : Nat) (v1 : Nat) (s : Mem) : Option Int32 :=
  if (gI s v0 1) < (gI s v1 1) then (
    B_X4_takes_26 fl s v0 v1)
  else
  if (gI s v0 2) < (gI s v1 2) then (
    B_X4_takes_26 fl s v0 v1)
  else
  B_X4_takes_27 fl s v0 v1 (1 : Int32)
def F_X1_hasFit (fl : Nat) (v0 : Nat) (v1 : Nat) (v2 : Int32) (s : Mem) : Option Int32 :=
  bd (F_X1_hasPitch fl v0 v2 s) fun q1 =>
  if q1 = 0 then (
    some (0 : Int32))
  else
  bd (ldA s v0 0 4) fun r4 =>
  gd (inR v2 r4.2) <|
  bd (ldO s r4.1 v2.toNatClampNeg 6) fun r7 =>
  bd (F_X4_takes fl r7 v1 s) fun q9 =>
  if q9 = 0 then (
    some (0 : Int32))
  else
  some (1 : Int32)
def F_X1_isStillToCome (fl : Nat) (v0 : Nat) (v1 : Nat) (s : Mem) : Option Int32 :=
  if (gI s v1 10) = 0 then (
    some (0 : Int32))
  else
  if (gI s v1 4) < (gI s v0 8) then (
    some (0 : Int32))
  else
  some (1 : Int32)
def F_X1_makePitch (fl : Nat) (v0 : Nat) (v1 : Int32) (v2 : Int32) (v3 : Int32) (v4 : Int32) (s : Mem) : Option (Int32 × Mem) :=
  bd (ldA s v0 0 4) fun r1 =>
  gd (inR (gI s v0 1) r1.2) <|
  bd (ldO s r1.1 (gI s v0 1).toNatClampNeg 6) fun r4 =>
  some (((gI (pI (pI (pI (pI (pI (pI s r4 0 v1) r4 1 v2) r4 2 v3) r4 3 v4) r4 4 (10 : Int32)) v0 1 ((gI (pI (pI (pI (pI (pI s r4 0 v1) r4 1 v2) r4 2 v3) r4 3 v4) r4 4 (10 : Int32)) v0 1) + (1 : Int32))) v0 1) - (1 : Int32)), (pI (pI (pI (pI (pI (pI s r4 0 v1) r4 1 v2) r4 2 v3) r4 3 v4) r4 4 (10 : Int32)) v0 1 ((gI (pI (pI (pI (pI (pI s r4 0 v1) r4 1 v2) r4 2 v3) r4 3 v4) r4 4 (10 : Int32)) v0 1) + (1 : Int32))))
def F_X1_makeSeason (fl : Nat) (v0 : Nat) (v1 : Int32) (v2 : Int32) (v3 : Int32) (s : Mem) : Option (Int32 × Mem) :=
  bd (ldA s v0 4 6) fun r1 =>
  gd (inR (gI s v0 5) r1.2) <|
  bd (ldO s r1.1 (gI s v0 5).toNatClampNeg 8) fun r4 =>
  some (((gI (pI (pI (pI (pI s r4 0 v1) r4 1 v2) r4 2 v3) v0 5 ((gI (pI (pI (pI s r4 0 v1) r4 1 v2) r4 2 v3) v0 5) + (1 : Int32))) v0 5) - (1 : Int32)), (pI (pI (pI (pI s r4 0 v1) r4 1 v2) r4 2 v3) v0 5 ((gI (pI (pI (pI s r4 0 v1) r4 1 v2) r4 2 v3) v0 5) + (1 : Int32))))
def B_X1_removeSeason_2 (fl : Nat) : Nat → Nat → Int32 → Mem → Option Mem
  | 0 => fun _ _ _ => none
  | n + 1 => fun v0 v2 s =>
    if (gI s v0 5) ≤ (v2 + (1 : Int32)) then (
      some (pI s v0 5 ((gI s v0 5) - (1 : Int32))))
    else
    bd (ldA s v0 4 6) fun r2 =>
    gd (inR v2 r2.2) <|
    bd (ldO s r2.1 v2.toNatClampNeg 8) fun r5 =>
    bd (ldA s v0 4 6) fun r7 =>
    gd (inR (v2 + (1 : Int32)) r7.2) <|
    bd (ldO s r7.1 (v2 + (1 : Int32)).toNatClampNeg 8) fun r10 =>
    bd (F_X6_copyFrom fl r5 r10 s) fun q12 =>
    B_X1_removeSeason_2 fl n v0 (v2 + (1 : Int32)) q12
def F_X1_removeSeason (fl : Nat) (v0 : Nat) (v1 : Int32) (s : Mem) : Option Mem :=
  B_X1_removeSeason_2 fl fl v0 v1 s
def F_X1_makeParty (fl : Nat) (v0 : Nat) (v1 : Nat) (v2 : Int32) (s : Mem) : Option (Int32 × Mem) :=
  bd (ldA s v0 2 5) fun r1 =>
  gd (inR (gI s v0 3) r1.2) <|
  bd (ldO s r1.1 (gI s v0 3).toNatClampNeg 5) fun r4 =>
  bd (F_X3_copyFrom fl r4 v1 s) fun q6 =>
  bd (F_X1_rateOf fl v0 v2 (pI q6 r4 7 v2)) fun q8 =>
  some (((gI (pI (pI (pI (pI q6 r4 7 v2) r4 8 ((q8 + (gI (pI q6 r4 7 v2) v1 3)) * (gI (pI q6 r4 7 v2) v1 5))) r4 10 (1 : Int32)) v0 3 ((gI (pI (pI (pI q6 r4 7 v2) r4 8 ((q8 + (gI (pI q6 r4 7 v2) v1 3)) * (gI (pI q6 r4 7 v2) v1 5))) r4 10 (1 : Int32)) v0 3) + (1 : Int32))) v0 3) - (1 : Int32)), (pI (pI (pI (pI q6 r4 7 v2) r4 8 ((q8 + (gI (pI q6 r4 7 v2) v1 3)) * (gI (pI q6 r4 7 v2) v1 5))) r4 10 (1 : Int32)) v0 3 ((gI (pI (pI (pI q6 r4 7 v2) r4 8 ((q8 + (gI (pI q6 r4 7 v2) v1 3)) * (gI (pI q6 r4 7 v2) v1 5))) r4 10 (1 : Int32)) v0 3) + (1 : Int32))))
def F_X3_isOn (fl : Nat) (v0 : Nat) (v1 : Int32) (s : Mem) : Option Int32 :=
  if (gI s v0 10) = 0 then (
    some (0 : Int32))
  else
  if (gI s v0 7) = v1 then (
    some (1 : Int32))
  else
  some (0 : Int32)
def B_X1_busyNights_47 (k5 : Nat → Int32 → Int32 → Int64 → Int32 → Option Int64) (fl : Nat) (s : Mem) (v0 : Nat) (v1 : Int32) (v2 : Int32) (v3 : Int64) (v5 : Int32) : Option Int64 :=
  k5 v0 v1 v2 v3 (v5 + (1 : Int32))
def B_X1_busyNights_5 (fl : Nat) (s : Mem) : Nat → Nat → Int32 → Int32 → Int64 → Int32 → Option Int64
  | 0 => fun _ _ _ _ _ => none
  | n + 1 => fun v0 v1 v2 v3 v5 =>
    if (gI s v0 3) ≤ v5 then (
      some v3)
    else
    if v5 = v2 then (
      B_X1_busyNights_47 (B_X1_busyNights_5 fl s n) fl s v0 v1 v2 v3 v5)
    else
    bd (ldA s v0 2 5) fun r3 =>
    gd (inR v5 r3.2) <|
    bd (ldO s r3.1 v5.toNatClampNeg 5) fun r6 =>
    bd (F_X3_isOn fl r6 v1 s) fun q8 =>
    if q8 = 0 then (
      B_X1_busyNights_47 (B_X1_busyNights_5 fl s n) fl s v0 v1 v2 v3 v5)
    else
    bd (ldA s v0 2 5) fun r11 =>
    gd (inR v5 r11.2) <|
    bd (ldO s r11.1 v5.toNatClampNeg 5) fun r14 =>
    B_X1_busyNights_47 (B_X1_busyNights_5 fl s n) fl s v0 v1 v2 (v3 ||| (gL s r14 6)) v5
def F_X1_busyNights (fl : Nat) (v0 : Nat) (v1 : Int32) (v2 : Int32) (s : Mem) : Option Int64 :=
  B_X1_busyNights_5 fl s fl v0 v1 v2 (0 : Int64) (0 : Int32)
def F_X7_holds (fl : Nat) (v0 : Int64) (v2 : Int32) (s : Mem) : Option Int32 :=
  if v2 < 0 then (
    some (0 : Int32))
  else
  if (60 : Int32) ≤ v2 then (
    some (0 : Int32))
  else
  if (lg_cmp ((Int64.toUInt64 v0 >>> ((Int32.toInt64 v2).toUInt64 &&& Int64.toUInt64 63)).toInt64 &&& (1 : Int64)) (0 : Int64)) = 0 then (
    some (0 : Int32))
  else
  some (1 : Int32)
def B_X1_partyAt_41 (k2 : Nat → Int32 → Int32 → Int32 → Option Int32) (fl : Nat) (s : Mem) (v0 : Nat) (v1 : Int32) (v2 : Int32) (v3 : Int32) : Option Int32 :=
  k2 v0 v1 v2 (v3 + (1 : Int32))
def B_X1_partyAt_2 (fl : Nat) (s : Mem) : Nat → Nat → Int32 → Int32 → Int32 → Option Int32
  | 0 => fun _ _ _ _ => none
  | n + 1 => fun v0 v1 v2 v3 =>
    if (gI s v0 3) ≤ v3 then (
      some (-1 : Int32))
    else
    bd (ldA s v0 2 5) fun r2 =>
    gd (inR v3 r2.2) <|
    bd (ldO s r2.1 v3.toNatClampNeg 5) fun r5 =>
    bd (F_X3_isOn fl r5 v1 s) fun q7 =>
    if q7 = 0 then (
      B_X1_partyAt_41 (B_X1_partyAt_2 fl s n) fl s v0 v1 v2 v3)
    else
    bd (ldA s v0 2 5) fun r10 =>
    gd (inR v3 r10.2) <|
    bd (ldO s r10.1 v3.toNatClampNeg 5) fun r13 =>
    bd (F_X7_holds fl (gL s r13 6) v2 s) fun q15 =>
    if q15 = 0 then (
      B_X1_partyAt_41 (B_X1_partyAt_2 fl s n) fl s v0 v1 v2 v3)
    else
    some v3
def F_X1_partyAt (fl : Nat) (v0 : Nat) (v1 : Int32) (v2 : Int32) (s : Mem) : Option Int32 :=
  B_X1_partyAt_2 fl s fl v0 v1 v2 (0 : Int32)
def B_X1_powerUsed_73 (k6 : Nat → Int32 → Int32 → Int32 → Int32 → Int32 → Option Int32) (fl : Nat) (s : Mem) (v0 : Nat) (v1 : Int32) (v2 : Int32) (v3 : Int32) (v4 : Int32) (v5 : Int32) : Option Int32 :=
  k6 v0 v1 v2 v3 v4 (v5 + (1 : Int32))
def B_X1_powerUsed_6 (fl : Nat) (s : Mem) : Nat → Nat → Int32 → Int32 → Int32 → Int32 → Int32 → Option Int32
  | 0 => fun _ _ _ _ _ _ => none
  | n + 1 => fun v0 v1 v2 v3 v4 v5 =>
    if (gI s v0 3) ≤ v5 then (
      some v4)
    else
    bd (ldA s v0 2 5) fun r2 =>
    gd (inR v5 r2.2) <|
    bd (ldO s r2.1 v5.toNatClampNeg 5) fun r5 =>
    if v5 = v3 then (
      B_X1_powerUsed_73 (B_X1_powerUsed_6 fl s n) fl s v0 v1 v2 v3 v4 v5)
    else
    if (gI s r5 10) = 0 then (
      B_X1_powerUsed_73 (B_X1_powerUsed_6 fl s n) fl s v0 v1 v2 v3 v4 v5)
    else
    bd (F_X7_holds fl (gL s r5 6) v2 s) fun q9 =>
    if q9 = 0 then (
      B_X1_powerUsed_73 (B_X1_powerUsed_6 fl s n) fl s v0 v1 v2 v3 v4 v5)
    else
    bd (F_X1_circuitOf fl v0 (gI s r5 7) s) fun q12 =>
    if q12 = v1 then (
      B_X1_powerUsed_73 (B_X1_powerUsed_6 fl s n) fl s v0 v1 v2 v3 (v4 + (gI s r5 3)) v5)
    else
    B_X1_powerUsed_73 (B_X1_powerUsed_6 fl s n) fl s v0 v1 v2 v3 v4 v5
def F_X1_powerUsed (fl : Nat) (v0 : Nat) (v1 : Int32) (v2 : Int32) (v3 : Int32) (s : Mem) : Option Int32 :=
  B_X1_powerUsed_6 fl s fl v0 v1 v2 v3 (0 : Int32) (0 : Int32)
def B_X1_stayAsked_70 (k5 : Nat → Int32 → Int32 → Int32 → Int32 → Option Int32) (fl : Nat) (s : Mem) (v0 : Nat) (v1 : Int32) (v2 : Int32) (v3 : Int32) (v4 : Int32) : Option Int32 :=
  k5 v0 v1 v2 v3 (v4 + (1 : Int32))
def B_X1_stayAsked_48 (k5 : Nat → Int32 → Int32 → Int32 → Int32 → Option Int32) (fl : Nat) (s : Mem) (v0 : Nat) (v1 : Int32) (v2 : Int32) (v3 : Int32) (v4 : Int32) (v5 : Nat) (w0 : Int32) : Option Int32 :=
  if w0 = 0 then (
    B_X1_stayAsked_70 k5 fl s v0 v1 v2 v3 v4)
  else
  if (gI s v5 2) ≤ v3 then (
    B_X1_stayAsked_70 k5 fl s v0 v1 v2 v3 v4)
  else
  B_X1_stayAsked_70 k5 fl s v0 v1 v2 (gI s v5 2) v4
def B_X1_stayAsked_47 (k5 : Nat → Int32 → Int32 → Int32 → Int32 → Option Int32) (fl : Nat) (s : Mem) (v0 : Nat) (v1 : Int32) (v2 : Int32) (v3 : Int32) (v4 : Int32) (v5 : Nat) : Option Int32 :=
  B_X1_stayAsked_48 k5 fl s v0 v1 v2 v3 v4 v5 (0 : Int32)
def B_X1_stayAsked_5 (fl : Nat) (s : Mem) : Nat → Nat → Int32 → Int32 → Int32 → Int32 → Option Int32
  | 0 => fun _ _ _ _ _ => none
  | n + 1 => fun v0 v1 v2 v3 v4 =>
    if (gI s v0 5) ≤ v4 then (
      some v3)
    else
    bd (ldA s v0 4 6) fun r4 =>
    gd (inR v4 r4.2) <|
    bd (ldO s r4.1 v4.toNatClampNeg 8) fun r7 =>
    if (gI s r7 1) < v1 then (
      B_X1_stayAsked_47 (B_X1_stayAsked_5 fl s n) fl s v0 v1 v2 v3 v4 r7)
    else
    if (v1 + v2) ≤ (gI s r7 0) then (
      B_X1_stayAsked_47 (B_X1_stayAsked_5 fl s n) fl s v0 v1 v2 v3 v4 r7)
    else
    B_X1_stayAsked_48 (B_X1_stayAsked_5 fl s n) fl s v0 v1 v2 v3 v4 r7 (1 : Int32)
def F_X1_stayAsked (fl : Nat) (v0 : Nat) (v1 : Int32) (v2 : Int32) (s : Mem) : Option Int32 :=
  B_X1_stayAsked_5 fl s fl v0 v1 v2 (1 : Int32) (0 : Int32)
def B_X1_isTooShort_34 (fl : Nat) (s : Mem) (v0 : Nat) (v1 : Nat) (w0 : Int32) : Option Int32 :=
  if w0 = 0 then (
    bd (F_X1_stayAsked fl v0 (gI s v1 4) (gI s v1 5) s) fun q2 =>
    if q2 ≤ (gI s v1 5) then (
      some (0 : Int32))
    else
    some (1 : Int32))
  else
  some (0 : Int32)
def B_X1_isTooShort_33 (fl : Nat) (s : Mem) (v0 : Nat) (v1 : Nat) : Option Int32 :=
  B_X1_isTooShort_34 fl s v0 v1 (0 : Int32)
def F_X1_isTooShort (fl : Nat) (v0 : Nat) (v1 : Nat) (v2 : Int64) (s : Mem) : Option Int32 :=
  bd (F_X7_holds fl v2 ((gI s v1 4) - (1 : Int32)) s) fun q5 =>
  if q5 = 0 then (
    B_X1_isTooShort_33 fl s v0 v1)
  else
  bd (F_X7_holds fl v2 ((gI s v1 4) + (gI s v1 5)) s) fun q8 =>
  if q8 = 0 then (
    B_X1_isTooShort_33 fl s v0 v1)
  else
  B_X1_isTooShort_34 fl s v0 v1 (1 : Int32)
def B_X1_gapEdges_8 (fl : Nat) (s : Mem) : Nat → Nat → Int64 → Int64 → Int64 → Int32 → Option Int64
  | 0 => fun _ _ _ _ _ => none
  | n + 1 => fun v0 v1 v3 v5 v7 =>
    if (gI s v0 7) < v7 then (
      some v3)
    else
    B_X1_gapEdges_8 fl s n v0 v1 (v3 ||| ((v5 &&& ((Int64.toUInt64 v1 >>> ((Int32.toInt64 v7).toUInt64 &&& Int64.toUInt64 63)).toInt64 ^^^ (-1 : Int64))) &&& (Int64.toUInt64 v1 >>> ((Int32.toInt64 (v7 + (1 : Int32))).toUInt64 &&& Int64.toUInt64 63)).toInt64)) (v5 &&& ((Int64.toUInt64 v1 >>> ((Int32.toInt64 v7).toUInt64 &&& Int64.toUInt64 63)).toInt64 ^^^ (-1 : Int64))) (v7 + (1 : Int32))
def F_X1_gapEdges (fl : Nat) (v0 : Nat) (v1 : Int64) (s : Mem) : Option Int64 :=
  B_X1_gapEdges_8 fl s fl v0 v1 (0 : Int64) v1 (1 : Int32)
def F_J13_bitCount_95d88 (fl : Nat) (v0 : Int64) (s : Mem) : Option Int32 :=
  some ((Int64.toInt32 ((((((((v0 - ((Int64.toUInt64 v0 >>> ((Int32.toInt64 (1 : Int32)).toUInt64 &&& Int64.toUInt64 63)).toInt64 &&& (6148914691236517205 : Int64))) &&& (3689348814741910323 : Int64)) + ((Int64.toUInt64 (v0 - ((Int64.toUInt64 v0 >>> ((Int32.toInt64 (1 : Int32)).toUInt64 &&& Int64.toUInt64 63)).toInt64 &&& (6148914691236517205 : Int64))) >>> ((Int32.toInt64 (2 : Int32)).toUInt64 &&& Int64.toUInt64 63)).toInt64 &&& (3689348814741910323 : Int64))) + (Int64.toUInt64 (((v0 - ((Int64.toUInt64 v0 >>> ((Int32.toInt64 (1 : Int32)).toUInt64 &&& Int64.toUInt64 63)).toInt64 &&& (6148914691236517205 : Int64))) &&& (3689348814741910323 : Int64)) + ((Int64.toUInt64 (v0 - ((Int64.toUInt64 v0 >>> ((Int32.toInt64 (1 : Int32)).toUInt64 &&& Int64.toUInt64 63)).toInt64 &&& (6148914691236517205 : Int64))) >>> ((Int32.toInt64 (2 : Int32)).toUInt64 &&& Int64.toUInt64 63)).toInt64 &&& (3689348814741910323 : Int64))) >>> ((Int32.toInt64 (4 : Int32)).toUInt64 &&& Int64.toUInt64 63)).toInt64) &&& (1085102592571150095 : Int64)) + (Int64.toUInt64 (((((v0 - ((Int64.toUInt64 v0 >>> ((Int32.toInt64 (1 : Int32)).toUInt64 &&& Int64.toUInt64 63)).toInt64 &&& (6148914691236517205 : Int64))) &&& (3689348814741910323 : Int64)) + ((Int64.toUInt64 (v0 - ((Int64.toUInt64 v0 >>> ((Int32.toInt64 (1 : Int32)).toUInt64 &&& Int64.toUInt64 63)).toInt64 &&& (6148914691236517205 : Int64))) >>> ((Int32.toInt64 (2 : Int32)).toUInt64 &&& Int64.toUInt64 63)).toInt64 &&& (3689348814741910323 : Int64))) + (Int64.toUInt64 (((v0 - ((Int64.toUInt64 v0 >>> ((Int32.toInt64 (1 : Int32)).toUInt64 &&& Int64.toUInt64 63)).toInt64 &&& (6148914691236517205 : Int64))) &&& (3689348814741910323 : Int64)) + ((Int64.toUInt64 (v0 - ((Int64.toUInt64 v0 >>> ((Int32.toInt64 (1 : Int32)).toUInt64 &&& Int64.toUInt64 63)).toInt64 &&& (6148914691236517205 : Int64))) >>> ((Int32.toInt64 (2 : Int32)).toUInt64 &&& Int64.toUInt64 63)).toInt64 &&& (3689348814741910323 : Int64))) >>> ((Int32.toInt64 (4 : Int32)).toUInt64 &&& Int64.toUInt64 63)).toInt64) &&& (1085102592571150095 : Int64)) >>> ((Int32.toInt64 (8 : Int32)).toUInt64 &&& Int64.toUInt64 63)).toInt64) + (Int64.toUInt64 ((((((v0 - ((Int64.toUInt64 v0 >>> ((Int32.toInt64 (1 : Int32)).toUInt64 &&& Int64.toUInt64 63)).toInt64 &&& (6148914691236517205 : Int64))) &&& (3689348814741910323 : Int64)) + ((Int64.toUInt64 (v0 - ((Int64.toUInt64 v0 >>> ((Int32.toInt64 (1 : Int32)).toUInt64 &&& Int64.toUInt64 63)).toInt64 &&& (6148914691236517205 : Int64))) >>> ((Int32.toInt64 (2 : Int32)).toUInt64 &&& Int64.toUInt64 63)).toInt64 &&& (3689348814741910323 : Int64))) + (Int64.toUInt64 (((v0 - ((Int64.toUInt64 v0 >>> ((Int32.toInt64 (1 : Int32)).toUInt64 &&& Int64.toUInt64 63)).toInt64 &&& (6148914691236517205 : Int64))) &&& (3689348814741910323 : Int64)) + ((Int64.toUInt64 (v0 - ((Int64.toUInt64 v0 >>> ((Int32.toInt64 (1 : Int32)).toUInt64 &&& Int64.toUInt64 63)).toInt64 &&& (6148914691236517205 : Int64))) >>> ((Int32.toInt64 (2 : Int32)).toUInt64 &&& Int64.toUInt64 63)).toInt64 &&& (3689348814741910323 : Int64))) >>> ((Int32.toInt64 (4 : Int32)).toUInt64 &&& Int64.toUInt64 63)).toInt64) &&& (1085102592571150095 : Int64)) + (Int64.toUInt64 (((((v0 - ((Int64.toUInt64 v0 >>> ((Int32.toInt64 (1 : Int32)).toUInt64 &&& Int64.toUInt64 63)).toInt64 &&& (6148914691236517205 : Int64))) &&& (3689348814741910323 : Int64)) + ((Int64.toUInt64 (v0 - ((Int64.toUInt64 v0 >>> ((Int32.toInt64 (1 : Int32)).toUInt64 &&& Int64.toUInt64 63)).toInt64 &&& (6148914691236517205 : Int64))) >>> ((Int32.toInt64 (2 : Int32)).toUInt64 &&& Int64.toUInt64 63)).toInt64 &&& (3689348814741910323 : Int64))) + (Int64.toUInt64 (((v0 - ((Int64.toUInt64 v0 >>> ((Int32.toInt64 (1 : Int32)).toUInt64 &&& Int64.toUInt64 63)).toInt64 &&& (6148914691236517205 : Int64))) &&& (3689348814741910323 : Int64)) + ((Int64.toUInt64 (v0 - ((Int64.toUInt64 v0 >>> ((Int32.toInt64 (1 : Int32)).toUInt64 &&& Int64.toUInt64 63)).toInt64 &&& (6148914691236517205 : Int64))) >>> ((Int32.toInt64 (2 : Int32)).toUInt64 &&& Int64.toUInt64 63)).toInt64 &&& (3689348814741910323 : Int64))) >>> ((Int32.toInt64 (4 : Int32)).toUInt64 &&& Int64.toUInt64 63)).toInt64) &&& (1085102592571150095 : Int64)) >>> ((Int32.toInt64 (8 : Int32)).toUInt64 &&& Int64.toUInt64 63)).toInt64) >>> ((Int32.toInt64 (16 : Int32)).toUInt64 &&& Int64.toUInt64 63)).toInt64) + (Int64.toUInt64 (((((((v0 - ((Int64.toUInt64 v0 >>> ((Int32.toInt64 (1 : Int32)).toUInt64 &&& Int64.toUInt64 63)).toInt64 &&& (6148914691236517205 : Int64))) &&& (3689348814741910323 : Int64)) + ((Int64.toUInt64 (v0 - ((Int64.toUInt64 v0 >>> ((Int32.toInt64 (1 : Int32)).toUInt64 &&& Int64.toUInt64 63)).toInt64 &&& (6148914691236517205 : Int64))) >>> ((Int32.toInt64 (2 : Int32)).toUInt64 &&& Int64.toUInt64 63)).toInt64 &&& (3689348814741910323 : Int64))) + (Int64.toUInt64 (((v0 - ((Int64.toUInt64 v0 >>> ((Int32.toInt64 (1 : Int32)).toUInt64 &&& Int64.toUInt64 63)).toInt64 &&& (6148914691236517205 : Int64))) &&& (3689348814741910323 : Int64)) + ((Int64.toUInt64 (v0 - ((Int64.toUInt64 v0 >>> ((Int32.toInt64 (1 : Int32)).toUInt64 &&& Int64.toUInt64 63)).toInt64 &&& (6148914691236517205 : Int64))) >>> ((Int32.toInt64 (2 : Int32)).toUInt64 &&& Int64.toUInt64 63)).toInt64 &&& (3689348814741910323 : Int64))) >>> ((Int32.toInt64 (4 : Int32)).toUInt64 &&& Int64.toUInt64 63)).toInt64) &&& (1085102592571150095 : Int64)) + (Int64.toUInt64 (((((v0 - ((Int64.toUInt64 v0 >>> ((Int32.toInt64 (1 : Int32)).toUInt64 &&& Int64.toUInt64 63)).toInt64 &&& (6148914691236517205 : Int64))) &&& (3689348814741910323 : Int64)) + ((Int64.toUInt64 (v0 - ((Int64.toUInt64 v0 >>> ((Int32.toInt64 (1 : Int32)).toUInt64 &&& Int64.toUInt64 63)).toInt64 &&& (6148914691236517205 : Int64))) >>> ((Int32.toInt64 (2 : Int32)).toUInt64 &&& Int64.toUInt64 63)).toInt64 &&& (3689348814741910323 : Int64))) + (Int64.toUInt64 (((v0 - ((Int64.toUInt64 v0 >>> ((Int32.toInt64 (1 : Int32)).toUInt64 &&& Int64.toUInt64 63)).toInt64 &&& (6148914691236517205 : Int64))) &&& (3689348814741910323 : Int64)) + ((Int64.toUInt64 (v0 - ((Int64.toUInt64 v0 >>> ((Int32.toInt64 (1 : Int32)).toUInt64 &&& Int64.toUInt64 63)).toInt64 &&& (6148914691236517205 : Int64))) >>> ((Int32.toInt64 (2 : Int32)).toUInt64 &&& Int64.toUInt64 63)).toInt64 &&& (3689348814741910323 : Int64))) >>> ((Int32.toInt64 (4 : Int32)).toUInt64 &&& Int64.toUInt64 63)).toInt64) &&& (1085102592571150095 : Int64)) >>> ((Int32.toInt64 (8 : Int32)).toUInt64 &&& Int64.toUInt64 63)).toInt64) + (Int64.toUInt64 ((((((v0 - ((Int64.toUInt64 v0 >>> ((Int32.toInt64 (1 : Int32)).toUInt64 &&& Int64.toUInt64 63)).toInt64 &&& (6148914691236517205 : Int64))) &&& (3689348814741910323 : Int64)) + ((Int64.toUInt64 (v0 - ((Int64.toUInt64 v0 >>> ((Int32.toInt64 (1 : Int32)).toUInt64 &&& Int64.toUInt64 63)).toInt64 &&& (6148914691236517205 : Int64))) >>> ((Int32.toInt64 (2 : Int32)).toUInt64 &&& Int64.toUInt64 63)).toInt64 &&& (3689348814741910323 : Int64))) + (Int64.toUInt64 (((v0 - ((Int64.toUInt64 v0 >>> ((Int32.toInt64 (1 : Int32)).toUInt64 &&& Int64.toUInt64 63)).toInt64 &&& (6148914691236517205 : Int64))) &&& (3689348814741910323 : Int64)) + ((Int64.toUInt64 (v0 - ((Int64.toUInt64 v0 >>> ((Int32.toInt64 (1 : Int32)).toUInt64 &&& Int64.toUInt64 63)).toInt64 &&& (6148914691236517205 : Int64))) >>> ((Int32.toInt64 (2 : Int32)).toUInt64 &&& Int64.toUInt64 63)).toInt64 &&& (3689348814741910323 : Int64))) >>> ((Int32.toInt64 (4 : Int32)).toUInt64 &&& Int64.toUInt64 63)).toInt64) &&& (1085102592571150095 : Int64)) + (Int64.toUInt64 (((((v0 - ((Int64.toUInt64 v0 >>> ((Int32.toInt64 (1 : Int32)).toUInt64 &&& Int64.toUInt64 63)).toInt64 &&& (6148914691236517205 : Int64))) &&& (3689348814741910323 : Int64)) + ((Int64.toUInt64 (v0 - ((Int64.toUInt64 v0 >>> ((Int32.toInt64 (1 : Int32)).toUInt64 &&& Int64.toUInt64 63)).toInt64 &&& (6148914691236517205 : Int64))) >>> ((Int32.toInt64 (2 : Int32)).toUInt64 &&& Int64.toUInt64 63)).toInt64 &&& (3689348814741910323 : Int64))) + (Int64.toUInt64 (((v0 - ((Int64.toUInt64 v0 >>> ((Int32.toInt64 (1 : Int32)).toUInt64 &&& Int64.toUInt64 63)).toInt64 &&& (6148914691236517205 : Int64))) &&& (3689348814741910323 : Int64)) + ((Int64.toUInt64 (v0 - ((Int64.toUInt64 v0 >>> ((Int32.toInt64 (1 : Int32)).toUInt64 &&& Int64.toUInt64 63)).toInt64 &&& (6148914691236517205 : Int64))) >>> ((Int32.toInt64 (2 : Int32)).toUInt64 &&& Int64.toUInt64 63)).toInt64 &&& (3689348814741910323 : Int64))) >>> ((Int32.toInt64 (4 : Int32)).toUInt64 &&& Int64.toUInt64 63)).toInt64) &&& (1085102592571150095 : Int64)) >>> ((Int32.toInt64 (8 : Int32)).toUInt64 &&& Int64.toUInt64 63)).toInt64) >>> ((Int32.toInt64 (16 : Int32)).toUInt64 &&& Int64.toUInt64 63)).toInt64) >>> ((Int32.toInt64 (32 : Int32)).toUInt64 &&& Int64.toUInt64 63)).toInt64)) &&& (127 : Int32))
def F_X1_countGaps (fl : Nat) (v0 : Nat) (v1 : Int64) (s : Mem) : Option Int32 :=
  bd (F_X1_gapEdges fl v0 v1 s) fun q1 =>
  bd (F_J13_bitCount_95d88 fl q1 s) fun q3 =>
  some q3
def F_X7_isCircuit (fl : Nat) (v0 : Int32) (s : Mem) : Option Int32 :=
  if v0 < 0 then (
    some (0 : Int32))
  else
  if (3 : Int32) ≤ v0 then (
    some (0 : Int32))
  else
  some (1 : Int32)
def B_X1_isPowerShort_15 (fl : Nat) (s : Mem) : Nat → Nat → Nat → Int32 → Int32 → Int32 → Option Int32
  | 0 => fun _ _ _ _ _ => none
  | n + 1 => fun v0 v1 v2 v3 v4 =>
    if ((gI s v1 4) + (gI s v1 5)) ≤ v4 then (
      some (0 : Int32))
    else
    bd (F_X1_powerUsed fl v0 v3 v4 v2 s) fun q2 =>
    bd (ldA s v0 6 0) fun r4 =>
    gd (inR v3 r4.2) <|
    if (q2 + (gI s v1 3)) ≤ (gI s r4.1 v3.toNatClampNeg) then (
      B_X1_isPowerShort_15 fl s n v0 v1 v2 v3 (v4 + (1 : Int32)))
    else
    some (1 : Int32)
def F_X1_isPowerShort (fl : Nat) (v0 : Nat) (v1 : Nat) (v2 : Int32) (v3 : Int32) (s : Mem) : Option Int32 :=
  bd (F_X7_isCircuit fl v3 s) fun q8 =>
  if q8 = 0 then (
    some (0 : Int32))
  else
  B_X1_isPowerShort_15 fl s fl v0 v1 v2 v3 (gI s v1 4)
def F_X1_obstacleOf (fl : Nat) (v0 : Nat) (v1 : Nat) (v2 : Int32) (v3 : Int32) (s : Mem) : Option Int32 :=
  bd (F_X1_hasFit fl v0 v1 v3 s) fun q1 =>
  if q1 = 0 then (
    some (1 : Int32))
  else
  bd (F_X1_busyNights fl v0 v3 v2 s) fun q4 =>
  if (lg_cmp (q4 &&& (gL s v1 6)) (0 : Int64)) = 0 then (
    bd (F_X1_circuitOf fl v0 v3 s) fun q7 =>
    bd (F_X1_isPowerShort fl v0 v1 v2 q7 s) fun q9 =>
    if q9 = 0 then (
      bd (F_X1_isTooShort fl v0 v1 q4 s) fun q12 =>
      if q12 = 0 then (
        bd (F_X1_countGaps fl v0 (q4 ||| (gL s v1 6)) s) fun q15 =>
        bd (F_X1_countGaps fl v0 q4 s) fun q17 =>
        if q15 ≤ q17 then (
          some (0 : Int32))
        else
        some (5 : Int32))
      else
      some (4 : Int32))
    else
    some (3 : Int32))
  else
  some (2 : Int32)
def F_J9_max_7cf53 (fl : Nat) (v0 : Int32) (v1 : Int32) (s : Mem) : Option Int32 :=
  if v0 < v1 then (
    some v1)
  else
  some v0
def B_X1_greatestObstacle_4 (fl : Nat) (s : Mem) : Nat → Nat → Nat → Int32 → Int32 → Option Int32
  | 0 => fun _ _ _ _ => none
  | n + 1 => fun v0 v1 v2 v3 =>
    if (gI s v0 1) ≤ v3 then (
      some v2)
    else
    bd (F_X1_obstacleOf fl v0 v1 (-1 : Int32) v3 s) fun q2 =>
    bd (F_J9_max_7cf53 fl v2 q2 s) fun q4 =>
    B_X1_greatestObstacle_4 fl s n v0 v1 q4 (v3 + (1 : Int32))
def F_X1_greatestObstacle (fl : Nat) (v0 : Nat) (v1 : Nat) (s : Mem) : Option Int32 :=
  B_X1_greatestObstacle_4 fl s fl v0 v1 (1 : Int32) (0 : Int32)
def B_X1_countArrivals_58 (k5 : Nat → Int32 → Int32 → Int32 → Int32 → Option Int32) (fl : Nat) (s : Mem) (v0 : Nat) (v1 : Int32) (v2 : Int32) (v3 : Int32) (v4 : Int32) : Option Int32 :=
  k5 v0 v1 v2 v3 (v4 + (1 : Int32))
def B_X1_countArrivals_5 (fl : Nat) (s : Mem) : Nat → Nat → Int32 → Int32 → Int32 → Int32 → Option Int32
  | 0 => fun _ _ _ _ _ => none
  | n + 1 => fun v0 v1 v2 v3 v4 =>
    if (gI s v0 3) ≤ v4 then (
      some v3)
    else
    bd (ldA s v0 2 5) fun r2 =>
    gd (inR v4 r2.2) <|
    bd (ldO s r2.1 v4.toNatClampNeg 5) fun r5 =>
    if (gI s r5 10) = 0 then (
      B_X1_countArrivals_58 (B_X1_countArrivals_5 fl s n) fl s v0 v1 v2 v3 v4)
    else
    bd (ldA s v0 2 5) fun r8 =>
    gd (inR v4 r8.2) <|
    bd (ldO s r8.1 v4.toNatClampNeg 5) fun r11 =>
    if (gI s r11 4) < v1 then (
      B_X1_countArrivals_58 (B_X1_countArrivals_5 fl s n) fl s v0 v1 v2 v3 v4)
    else
    bd (ldA s v0 2 5) fun r14 =>
    gd (inR v4 r14.2) <|
    bd (ldO s r14.1 v4.toNatClampNeg 5) fun r17 =>
    if v2 ≤ (gI s r17 4) then (
      B_X1_countArrivals_58 (B_X1_countArrivals_5 fl s n) fl s v0 v1 v2 v3 v4)
    else
    B_X1_countArrivals_58 (B_X1_countArrivals_5 fl s n) fl s v0 v1 v2 (v3 + (1 : Int32)) v4
def F_X1_countArrivals (fl : Nat) (v0 : Nat) (v1 : Int32) (v2 : Int32) (s : Mem) : Option Int32 :=
  B_X1_countArrivals_5 fl s fl v0 v1 v2 (0 : Int32) (0 : Int32)
def B_X1_countBooked_27 (k4 : Nat → Int32 → Int32 → Option Int32) (fl : Nat) (s : Mem) (v0 : Nat) (v1 : Int32) (v2 : Int32) : Option Int32 :=
  k4 v0 v1 (v2 + (1 : Int32))
def B_X1_countBooked_4 (fl : Nat) (s : Mem) : Nat → Nat → Int32 → Int32 → Option Int32
  | 0 => fun _ _ _ => none
  | n + 1 => fun v0 v1 v2 =>
    if (gI s v0 3) ≤ v2 then (
      some v1)
    else
    bd (ldA s v0 2 5) fun r2 =>
    gd (inR v2 r2.2) <|
    bd (ldO s r2.1 v2.toNatClampNeg 5) fun r5 =>
    if (gI s r5 10) = 0 then (
      B_X1_countBooked_27 (B_X1_countBooked_4 fl s n) fl s v0 v1 v2)
    else
    B_X1_countBooked_27 (B_X1_countBooked_4 fl s n) fl s v0 (v1 + (1 : Int32)) v2
def F_X1_countBooked (fl : Nat) (v0 : Nat) (s : Mem) : Option Int32 :=
  B_X1_countBooked_4 fl s fl v0 (0 : Int32) (0 : Int32)
def B_X1_sumPrices_36 (k4 : Nat → Int32 → Int32 → Option Int32) (fl : Nat) (s : Mem) (v0 : Nat) (v1 : Int32) (v2 : Int32) : Option Int32 :=
  k4 v0 v1 (v2 + (1 : Int32))
def B_X1_sumPrices_4 (fl : Nat) (s : Mem) : Nat → Nat → Int32 → Int32 → Option Int32
  | 0 => fun _ _ _ => none
  | n + 1 => fun v0 v1 v2 =>
    if (gI s v0 3) ≤ v2 then (
      some v1)
    else
    bd (ldA s v0 2 5) fun r2 =>
    gd (inR v2 r2.2) <|
    bd (ldO s r2.1 v2.toNatClampNeg 5) fun r5 =>
    if (gI s r5 10) = 0 then (
      B_X1_sumPrices_36 (B_X1_sumPrices_4 fl s n) fl s v0 v1 v2)
    else
    bd (ldA s v0 2 5) fun r8 =>
    gd (inR v2 r8.2) <|
    bd (ldO s r8.1 v2.toNatClampNeg 5) fun r11 =>
    B_X1_sumPrices_36 (B_X1_sumPrices_4 fl s n) fl s v0 (v1 + (gI s r11 8)) v2
def F_X1_sumPrices (fl : Nat) (v0 : Nat) (s : Mem) : Option Int32 :=
  B_X1_sumPrices_4 fl s fl v0 (0 : Int32) (0 : Int32)
def B_X1_sumFees_4 (fl : Nat) (s : Mem) : Nat → Nat → Int32 → Int32 → Option Int32
  | 0 => fun _ _ _ => none
  | n + 1 => fun v0 v1 v2 =>
    if (gI s v0 3) ≤ v2 then (
      some v1)
    else
    bd (ldA s v0 2 5) fun r2 =>
    gd (inR v2 r2.2) <|
    bd (ldO s r2.1 v2.toNatClampNeg 5) fun r5 =>
    B_X1_sumFees_4 fl s n v0 (v1 + (gI s r5 9)) (v2 + (1 : Int32))
def F_X1_sumFees (fl : Nat) (v0 : Nat) (s : Mem) : Option Int32 :=
  B_X1_sumFees_4 fl s fl v0 (0 : Int32) (0 : Int32)
def B_X1_countAllGaps_4 (fl : Nat) (s : Mem) : Nat → Nat → Int32 → Int32 → Option Int32
  | 0 => fun _ _ _ => none
  | n + 1 => fun v0 v1 v2 =>
    if (gI s v0 1) ≤ v2 then (
      some v1)
    else
    bd (F_X1_busyNights fl v0 v2 (-1 : Int32) s) fun q2 =>
    bd (F_X1_countGaps fl v0 q2 s) fun q4 =>
    B_X1_countAllGaps_4 fl s n v0 (v1 + q4) (v2 + (1 : Int32))
def F_X1_countAllGaps (fl : Nat) (v0 : Nat) (s : Mem) : Option Int32 :=
  B_X1_countAllGaps_4 fl s fl v0 (0 : Int32) (0 : Int32)
def B_X1_countAllBusyNights_4 (fl : Nat) (s : Mem) : Nat → Nat → Int32 → Int32 → Option Int32
  | 0 => fun _ _ _ => none
  | n + 1 => fun v0 v1 v2 =>
    if (gI s v0 1) ≤ v2 then (
      some v1)
    else
    bd (F_X1_busyNights fl v0 v2 (-1 : Int32) s) fun q2 =>
    bd (F_J13_bitCount_95d88 fl q2 s) fun q4 =>
    B_X1_countAllBusyNights_4 fl s n v0 (v1 + q4) (v2 + (1 : Int32))
def F_X1_countAllBusyNights (fl : Nat) (v0 : Nat) (s : Mem) : Option Int32 :=
  B_X1_countAllBusyNights_4 fl s fl v0 (0 : Int32) (0 : Int32)
def F_J9_min_7cf53 (fl : Nat) (v0 : Int32) (v1 : Int32) (s : Mem) : Option Int32 :=
  if v1 < v0 then (
    some v1)
  else
  some v0
def B_X2_keep_35 (fl : Nat) (v0 : Nat) (w0 : Nat) (w1 : Int32) (s : Mem) : Option Mem :=
  bd (F_J9_min_7cf53 fl ((gI (pI s w0 1 w1) v0 2) + (1 : Int32)) (8 : Int32) (pI s w0 1 w1)) fun q1 =>
  some (pI (pI s w0 1 w1) v0 2 q1)
def F_X2_keep (fl : Nat) (v0 : Nat) (v1 : Nat) (s : Mem) : Option Mem :=
  bd (ldA s v0 0 7) fun r3 =>
  gd (inR (gI s v0 1) r3.2) <|
  bd (ldO s r3.1 (gI s v0 1).toNatClampNeg 3) fun r6 =>
  bd (F_X1_copyFrom fl r6 v1 s) fun q8 =>
  if (8 : Int32) ≤ ((gI q8 v0 1) + (1 : Int32)) then (
    B_X2_keep_35 fl v0 v0 (0 : Int32) q8)
  else
  B_X2_keep_35 fl v0 v0 ((gI q8 v0 1) + (1 : Int32)) q8
def B_X2_takeBack_19 (fl : Nat) (v0 : Nat) (v1 : Nat) (w0 : Nat) (w1 : Int32) (s : Mem) : Option Mem :=
  bd (ldA (pI s w0 1 w1) v0 0 7) fun r1 =>
  gd (inR (gI (pI s w0 1 w1) v0 1) r1.2) <|
  bd (ldO (pI s w0 1 w1) r1.1 (gI (pI s w0 1 w1) v0 1).toNatClampNeg 3) fun r4 =>
  bd (F_X1_copyFrom fl v1 r4 (pI s w0 1 w1)) fun q6 =>
  some (pI q6 v0 2 ((gI q6 v0 2) - (1 : Int32)))
def F_X2_takeBack (fl : Nat) (v0 : Nat) (v1 : Nat) (s : Mem) : Option Mem :=
  if (gI s v0 1) ≤ 0 then (
    B_X2_takeBack_19 fl v0 v1 v0 (7 : Int32) s)
  else
  B_X2_takeBack_19 fl v0 v1 v0 ((gI s v0 1) - (1 : Int32)) s
def F_X7_stayOf (fl : Nat) (v0 : Int32) (v1 : Int32) (s : Mem) : Option Int64 :=
  some ((((1 : Int64) <<< (Int32.toInt64 v1 &&& 63)) - (1 : Int64)) <<< (Int32.toInt64 v0 &&& 63))
def F_X3_describe (fl : Nat) (v0 : Nat) (v1 : Int32) (v2 : Int32) (v3 : Int32) (v4 : Int32) (v5 : Int32) (v6 : Int32) (s : Mem) : Option Mem :=
  bd (F_X7_stayOf fl v5 v6 (pI (pI (pI (pI (pI (pI s v0 0 v1) v0 1 v2) v0 2 v3) v0 3 v4) v0 4 v5) v0 5 v6)) fun q1 =>
  some (pI (pI (pI (pI (pL (pI (pI (pI (pI (pI (pI s v0 0 v1) v0 1 v2) v0 2 v3) v0 3 v4) v0 4 v5) v0 5 v6) v0 6 q1) v0 7 (-1 : Int32)) v0 8 (0 : Int32)) v0 9 (0 : Int32)) v0 10 (0 : Int32))
def F_X3_feeAt (fl : Nat) (v0 : Nat) (v1 : Int32) (s : Mem) : Option Int32 :=
  if ((gI s v0 4) - v1) < (7 : Int32) then (
    if ((gI s v0 4) - v1) < (3 : Int32) then (
      some (gI s v0 8))
    else
    some ((gI s v0 8) / (2 : Int32)))
  else
  some (0 : Int32)
def B_X5_addLoad_5 (fl : Nat) : Nat → Nat → Int32 → Nat → Int32 → Mem → Option Mem
  | 0 => fun _ _ _ _ _ => none
  | n + 1 => fun v0 v1 v2 v3 s =>
    if ((gI s v2 4) + (gI s v2 5)) ≤ v3 then (
      some s)
    else
    bd (ldA s v0 12 0) fun r2 =>
    gd (inR ((v1 * (60 : Int32)) + v3) r2.2) <|
    gd (inR ((v1 * (60 : Int32)) + v3) r2.2) <|
    B_X5_addLoad_5 fl n v0 v1 v2 (v3 + (1 : Int32)) (pI s r2.1 ((v1 * (60 : Int32)) + v3).toNatClampNeg ((gI s r2.1 ((v1 * (60 : Int32)) + v3).toNatClampNeg) + (gI s v2 3)))
def F_X5_addLoad (fl : Nat) (v0 : Nat) (v1 : Int32) (v2 : Nat) (s : Mem) : Option Mem :=
  B_X5_addLoad_5 fl fl v0 v1 v2 (gI s v2 4) s
def B_X5_survey_113 (k60 : Nat → Int32 → Mem → Option Mem) (fl : Nat) (v0 : Nat) (v1 : Int32) (s : Mem) : Option Mem :=
  k60 v0 (v1 + (1 : Int32)) s
def B_X5_survey_60 (fl : Nat) : Nat → Nat → Int32 → Mem → Option Mem
  | 0 => fun _ _ _ => none
  | n + 1 => fun v0 v1 s =>
    bd (ldO s v0 0 3) fun r1 =>
    if (gI s r1 3) ≤ v1 then (
      some s)
    else
    bd (ldO s v0 0 3) fun r4 =>
    bd (ldA s r4 2 5) fun r6 =>
    gd (inR v1 r6.2) <|
    bd (ldO s r6.1 v1.toNatClampNeg 5) fun r9 =>
    bd (ldO s v0 0 3) fun r11 =>
    bd (F_X1_circuitOf fl r11 (gI s r9 7) s) fun q13 =>
    if (gI s r9 10) = 0 then (
      B_X5_survey_113 (B_X5_survey_60 fl n) fl v0 v1 s)
    else
    bd (F_X7_isCircuit fl q13 s) fun q16 =>
    if q16 = 0 then (
      B_X5_survey_113 (B_X5_survey_60 fl n) fl v0 v1 s)
    else
    bd (F_X5_addLoad fl v0 q13 r9 s) fun q19 =>
    B_X5_survey_113 (B_X5_survey_60 fl n) fl v0 v1 q19
def B_X5_survey_36 (fl : Nat) : Nat → Nat → Int32 → Mem → Option Mem
  | 0 => fun _ _ _ => none
  | n + 1 => fun v0 v1 s =>
    bd (ldA s v0 12 0) fun r21 =>
    if (nI r21.2) ≤ v1 then (
      B_X5_survey_60 fl fl v0 (0 : Int32) s)
    else
    bd (ldA s v0 12 0) fun r24 =>
    gd (inR v1 r24.2) <|
    B_X5_survey_36 fl n v0 (v1 + (1 : Int32)) (pI s r24.1 v1.toNatClampNeg (0 : Int32))
def B_X5_survey_2 (fl : Nat) : Nat → Nat → Int32 → Mem → Option Mem
  | 0 => fun _ _ _ => none
  | n + 1 => fun v0 v1 s =>
    bd (ldO s v0 0 3) fun r27 =>
    if (gI s r27 1) ≤ v1 then (
      B_X5_survey_36 fl fl v0 (0 : Int32) s)
    else
    bd (ldA s v0 10 1) fun r30 =>
    bd (ldO s v0 0 3) fun r32 =>
    bd (F_X1_busyNights fl r32 v1 (-1 : Int32) s) fun q34 =>
    gd (inR v1 r30.2) <|
    B_X5_survey_2 fl n v0 (v1 + (1 : Int32)) (pL s r30.1 v1.toNatClampNeg q34)
def F_X5_survey (fl : Nat) (v0 : Nat) (s : Mem) : Option Mem :=
  B_X5_survey_2 fl fl v0 (0 : Int32) s
def B_X5_sortPitches_65 (k2 : Nat → Int32 → Mem → Option Mem) (fl : Nat) (v0 : Nat) (v1 : Int32) (v2 : Int32) (s : Mem) : Option Mem :=
  bd (ldA s v0 13 0) fun r1 =>
  gd (inR v2 r1.2) <|
  k2 v0 (v1 + (1 : Int32)) (pI s r1.1 v2.toNatClampNeg v1)
def B_X5_sortPitches_15 (k2 : Nat → Int32 → Mem → Option Mem) (fl : Nat) : Nat → Nat → Int32 → Int32 → Mem → Option Mem
  | 0 => fun _ _ _ _ => none
  | n + 1 => fun v0 v1 v2 s =>
    if v2 ≤ 0 then (
      B_X5_sortPitches_65 k2 fl v0 v1 v2 s)
    else
    bd (ldO s v0 0 3) fun r5 =>
    bd (ldA s v0 13 0) fun r7 =>
    gd (inR (v2 - (1 : Int32)) r7.2) <|
    bd (F_X1_areaOf fl r5 (gI s r7.1 (v2 - (1 : Int32)).toNatClampNeg) s) fun q10 =>
    bd (ldO s v0 0 3) fun r12 =>
    bd (F_X1_areaOf fl r12 v1 s) fun q14 =>
    if q10 ≤ q14 then (
      B_X5_sortPitches_65 k2 fl v0 v1 v2 s)
    else
    bd (ldA s v0 13 0) fun r17 =>
    bd (ldA s v0 13 0) fun r19 =>
    gd (inR (v2 - (1 : Int32)) r19.2) <|
    gd (inR v2 r17.2) <|
    B_X5_sortPitches_15 k2 fl n v0 v1 (v2 + (-1 : Int32)) (pI s r17.1 v2.toNatClampNeg (gI s r19.1 (v2 - (1 : Int32)).toNatClampNeg))
def B_X5_sortPitches_2 (fl : Nat) : Nat → Nat → Int32 → Mem → Option Mem
  | 0 => fun _ _ _ => none
  | n + 1 => fun v0 v1 s =>
    bd (ldO s v0 0 3) fun r23 =>
    if (gI s r23 1) ≤ v1 then (
      some s)
    else
    B_X5_sortPitches_15 (B_X5_sortPitches_2 fl n) fl fl v0 v1 v1 s
def F_X5_sortPitches (fl : Nat) (v0 : Nat) (s : Mem) : Option Mem :=
  B_X5_sortPitches_2 fl fl v0 (0 : Int32) s
def F_X5_isInTheWay (fl : Nat) (v0 : Nat) (v1 : Nat) (s : Mem) : Option Int32 :=
  bd (ldA s v0 6 0) fun r1 =>
  gd (inR (0 : Int32) r1.2) <|
  bd (F_X3_isOn fl v1 (gI s r1.1 (0 : Int32).toNatClampNeg) s) fun q4 =>
  if q4 = 0 then (
    some (0 : Int32))
  else
  bd (ldO s v0 1 5) fun r7 =>
  if (lg_cmp ((gL s v1 6) &&& (gL s r7 6)) (0 : Int64)) = 0 then (
    some (0 : Int32))
  else
  some (1 : Int32)
def B_X5_chooseGoal_67 (k30 : Nat → Int32 → Int32 → Mem → Option (Int32 × Mem)) (fl : Nat) (v0 : Nat) (v1 : Int32) (v2 : Int32) (s : Mem) : Option (Int32 × Mem) :=
  k30 v0 v1 (v2 + (1 : Int32)) s
def B_X5_chooseGoal_30 (fl : Nat) : Nat → Nat → Int32 → Int32 → Mem → Option (Int32 × Mem)
  | 0 => fun _ _ _ _ => none
  | n + 1 => fun v0 v1 v2 s =>
    bd (ldO s v0 0 3) fun r1 =>
    if (gI s r1 3) ≤ v2 then (
      bd (ldA s v0 9 0) fun r4 =>
      gd (inR (0 : Int32) r4.2) <|
      if (gI s v0 2) < (gI s r4.1 (0 : Int32).toNatClampNeg) then (
        some ((0 : Int32), s))
      else
      bd (ldO s v0 0 3) fun r8 =>
      bd (ldO s v0 1 5) fun r10 =>
      bd (F_X1_hasFit fl r8 r10 v1 s) fun q12 =>
      if q12 = 0 then (
        some ((0 : Int32), s))
      else
      some ((1 : Int32), s))
    else
    bd (ldO s v0 0 3) fun r15 =>
    bd (ldA s r15 2 5) fun r17 =>
    gd (inR v2 r17.2) <|
    bd (ldO s r17.1 v2.toNatClampNeg 5) fun r20 =>
    bd (F_X5_isInTheWay fl v0 r20 s) fun q22 =>
    if q22 = 0 then (
      B_X5_chooseGoal_67 (B_X5_chooseGoal_30 fl n) fl v0 v1 v2 s)
    else
    bd (ldA s v0 9 0) fun r25 =>
    gd (inR (0 : Int32) r25.2) <|
    gd (inR (0 : Int32) r25.2) <|
    B_X5_chooseGoal_67 (B_X5_chooseGoal_30 fl n) fl v0 v1 v2 (pI s r25.1 (0 : Int32).toNatClampNeg ((gI s r25.1 (0 : Int32).toNatClampNeg) + (1 : Int32)))
def F_X5_chooseGoal (fl : Nat) (v0 : Nat) (v1 : Int32) (s : Mem) : Option (Int32 × Mem) :=
  bd (ldA s v0 6 0) fun r29 =>
  gd (inR (0 : Int32) r29.2) <|
  bd (ldA (pI s r29.1 (0 : Int32).toNatClampNeg v1) v0 8 0) fun r32 =>
  bd (ldO (pI s r29.1 (0 : Int32).toNatClampNeg v1) v0 0 3) fun r34 =>
  bd (F_X1_circuitOf fl r34 v1 (pI s r29.1 (0 : Int32).toNatClampNeg v1)) fun q36 =>
  gd (inR (0 : Int32) r32.2) <|
  bd (ldA (pI (pI s r29.1 (0 : Int32).toNatClampNeg v1) r32.1 (0 : Int32).toNatClampNeg q36) v0 9 0) fun r39 =>
  gd (inR (0 : Int32) r39.2) <|
  B_X5_chooseGoal_30 fl fl v0 v1 (0 : Int32) (pI (pI (pI s r29.1 (0 : Int32).toNatClampNeg v1) r32.1 (0 : Int32).toNatClampNeg q36) r39.1 (0 : Int32).toNatClampNeg (0 : Int32))
def B_X5_seatAll_76 (fl : Nat) : Nat → Nat → Int32 → Mem → Option (Int32 × Mem)
  | 0 => fun _ _ _ => none
  | n + 1 => fun v0 v1 s =>
    if (gI s v0 2) < v1 then (
      some ((1 : Int32), s))
    else
    bd (ldA s v0 11 1) fun r2 =>
    bd (ldA s v0 6 0) fun r4 =>
    gd (inR v1 r4.2) <|
    gd (inR (gI s r4.1 v1.toNatClampNeg) r2.2) <|
    bd (ldA s v0 3 5) fun r8 =>
    gd (inR v1 r8.2) <|
    bd (ldO s r8.1 v1.toNatClampNeg 5) fun r11 =>
    if (lg_cmp ((gL s r2.1 (gI s r4.1 v1.toNatClampNeg).toNatClampNeg) &&& (gL s r11 6)) (0 : Int64)) = 0 then (
      bd (ldA s v0 11 1) fun r14 =>
      bd (ldA s v0 6 0) fun r16 =>
      gd (inR v1 r16.2) <|
      gd (inR (gI s r16.1 v1.toNatClampNeg) r14.2) <|
      bd (ldA s v0 3 5) fun r20 =>
      gd (inR v1 r20.2) <|
      bd (ldO s r20.1 v1.toNatClampNeg 5) fun r23 =>
      gd (inR (gI s r16.1 v1.toNatClampNeg) r14.2) <|
      B_X5_seatAll_76 fl n v0 (v1 + (1 : Int32)) (pL s r14.1 (gI s r16.1 v1.toNatClampNeg).toNatClampNeg ((gL s r14.1 (gI s r16.1 v1.toNatClampNeg).toNatClampNeg) ||| (gL s r23 6))))
    else
    some ((0 : Int32), s)
def B_X5_seatAll_33 (fl : Nat) : Nat → Nat → Int32 → Mem → Option (Int32 × Mem)
  | 0 => fun _ _ _ => none
  | n + 1 => fun v0 v1 s =>
    if (gI s v0 2) < v1 then (
      B_X5_seatAll_76 fl fl v0 (0 : Int32) s)
    else
    bd (ldA s v0 11 1) fun r27 =>
    bd (ldA s v0 5 0) fun r29 =>
    gd (inR v1 r29.2) <|
    gd (inR (gI s r29.1 v1.toNatClampNeg) r27.2) <|
    bd (ldA s v0 3 5) fun r33 =>
    gd (inR v1 r33.2) <|
    bd (ldO s r33.1 v1.toNatClampNeg 5) fun r36 =>
    gd (inR (gI s r29.1 v1.toNatClampNeg) r27.2) <|
    B_X5_seatAll_33 fl n v0 (v1 + (1 : Int32)) (pL s r27.1 (gI s r29.1 v1.toNatClampNeg).toNatClampNeg ((gL s r27.1 (gI s r29.1 v1.toNatClampNeg).toNatClampNeg) &&& ((gL s r36 6) ^^^ (-1 : Int64))))
def B_X5_seatAll_2 (fl : Nat) : Nat → Nat → Int32 → Mem → Option (Int32 × Mem)
  | 0 => fun _ _ _ => none
  | n + 1 => fun v0 v1 s =>
    bd (ldO s v0 0 3) fun r39 =>
    if (gI s r39 1) ≤ v1 then (
      B_X5_seatAll_33 fl fl v0 (1 : Int32) s)
    else
    bd (ldA s v0 11 1) fun r42 =>
    bd (ldA s v0 10 1) fun r44 =>
    gd (inR v1 r44.2) <|
    gd (inR v1 r42.2) <|
    B_X5_seatAll_2 fl n v0 (v1 + (1 : Int32)) (pL s r42.1 v1.toNatClampNeg (gL s r44.1 v1.toNatClampNeg))
def F_X5_seatAll (fl : Nat) (v0 : Nat) (s : Mem) : Option (Int32 × Mem) :=
  B_X5_seatAll_2 fl fl v0 (0 : Int32) s
def B_X5_plannedLoad_99 (k15 : Nat → Int32 → Int32 → Int32 → Int32 → Option Int32) (fl : Nat) (s : Mem) (v0 : Nat) (v1 : Int32) (v2 : Int32) (v3 : Int32) (v4 : Int32) : Option Int32 :=
  k15 v0 v1 v2 v3 (v4 + (1 : Int32))
def B_X5_plannedLoad_97 (k15 : Nat → Int32 → Int32 → Int32 → Int32 → Option Int32) (fl : Nat) (s : Mem) (v0 : Nat) (v1 : Int32) (v2 : Int32) (v4 : Int32) (w0 : Int32) (w1 : Int32) : Option Int32 :=
  B_X5_plannedLoad_99 k15 fl s v0 v1 v2 (w0 - w1) v4
def B_X5_plannedLoad_69 (k15 : Nat → Int32 → Int32 → Int32 → Int32 → Option Int32) (fl : Nat) (s : Mem) (v0 : Nat) (v1 : Int32) (v2 : Int32) (v4 : Int32) (w0 : Int32) (w1 : Int32) : Option Int32 :=
  bd (ldA s v0 7 0) fun r1 =>
  gd (inR v4 r1.2) <|
  if (gI s r1.1 v4.toNatClampNeg) = v1 then (
    bd (ldA s v0 3 5) fun r5 =>
    gd (inR v4 r5.2) <|
    bd (ldO s r5.1 v4.toNatClampNeg 5) fun r8 =>
    B_X5_plannedLoad_97 k15 fl s v0 v1 v2 v4 (w0 + w1) (gI s r8 3))
  else
  B_X5_plannedLoad_97 k15 fl s v0 v1 v2 v4 (w0 + w1) (0 : Int32)
def B_X5_plannedLoad_15 (fl : Nat) (s : Mem) : Nat → Nat → Int32 → Int32 → Int32 → Int32 → Option Int32
  | 0 => fun _ _ _ _ _ => none
  | n + 1 => fun v0 v1 v2 v3 v4 =>
    if (gI s v0 2) < v4 then (
      some v3)
    else
    bd (ldA s v0 3 5) fun r11 =>
    gd (inR v4 r11.2) <|
    bd (ldO s r11.1 v4.toNatClampNeg 5) fun r14 =>
    if (lg_cmp ((Int64.toUInt64 (gL s r14 6) >>> ((Int32.toInt64 v2).toUInt64 &&& Int64.toUInt64 63)).toInt64 &&& (1 : Int64)) (0 : Int64)) = 0 then (
      B_X5_plannedLoad_99 (B_X5_plannedLoad_15 fl s n) fl s v0 v1 v2 v3 v4)
    else
    bd (ldA s v0 8 0) fun r17 =>
    gd (inR v4 r17.2) <|
    if (gI s r17.1 v4.toNatClampNeg) = v1 then (
      bd (ldA s v0 3 5) fun r21 =>
      gd (inR v4 r21.2) <|
      bd (ldO s r21.1 v4.toNatClampNeg 5) fun r24 =>
      B_X5_plannedLoad_69 (B_X5_plannedLoad_15 fl s n) fl s v0 v1 v2 v4 v3 (gI s r24 3))
    else
    B_X5_plannedLoad_69 (B_X5_plannedLoad_15 fl s n) fl s v0 v1 v2 v4 v3 (0 : Int32)
def F_X5_plannedLoad (fl : Nat) (v0 : Nat) (v1 : Int32) (v2 : Int32) (s : Mem) : Option Int32 :=
  bd (ldA s v0 12 0) fun r26 =>
  gd (inR ((v1 * (60 : Int32)) + v2) r26.2) <|
  B_X5_plannedLoad_15 fl s fl v0 v1 v2 (gI s r26.1 ((v1 * (60 : Int32)) + v2).toNatClampNeg) (0 : Int32)
def B_X5_hasPower_55 (k2 : Nat → Int32 → Option Int32) (fl : Nat) (s : Mem) : Nat → Nat → Int32 → Int32 → Int32 → Int32 → Option Int32
  | 0 => fun _ _ _ _ _ => none
  | n + 1 => fun v0 v1 v2 v4 v5 =>
    if v4 ≤ v5 then (
      k2 v0 (v1 + (1 : Int32)))
    else
    bd (F_X5_plannedLoad fl v0 v2 v5 s) fun q2 =>
    bd (ldO s v0 0 3) fun r4 =>
    bd (ldA s r4 6 0) fun r6 =>
    gd (inR v2 r6.2) <|
    if q2 ≤ (gI s r6.1 v2.toNatClampNeg) then (
      B_X5_hasPower_55 k2 fl s n v0 v1 v2 v4 (v5 + (1 : Int32)))
    else
    some (0 : Int32)
def B_X5_hasPower_47 (k2 : Nat → Int32 → Option Int32) (fl : Nat) (s : Mem) (v0 : Nat) (v1 : Int32) (v2 : Int32) (v3 : Nat) (w0 : Int32) : Option Int32 :=
  B_X5_hasPower_55 k2 fl s fl v0 v1 v2 w0 (gI s v3 4)
def B_X5_hasPower_2 (fl : Nat) (s : Mem) : Nat → Nat → Int32 → Option Int32
  | 0 => fun _ _ => none
  | n + 1 => fun v0 v1 =>
    if (gI s v0 2) < v1 then (
      some (1 : Int32))
    else
    bd (ldA s v0 8 0) fun r11 =>
    gd (inR v1 r11.2) <|
    bd (ldA s v0 3 5) fun r14 =>
    gd (inR v1 r14.2) <|
    bd (ldO s r14.1 v1.toNatClampNeg 5) fun r17 =>
    bd (F_X7_isCircuit fl (gI s r11.1 v1.toNatClampNeg) s) fun q19 =>
    if q19 = 0 then (
      B_X5_hasPower_47 (B_X5_hasPower_2 fl s n) fl s v0 v1 (gI s r11.1 v1.toNatClampNeg) r17 (gI s r17 4))
    else
    B_X5_hasPower_47 (B_X5_hasPower_2 fl s n) fl s v0 v1 (gI s r11.1 v1.toNatClampNeg) r17 ((gI s r17 4) + (gI s r17 5))
def F_X5_hasPower (fl : Nat) (v0 : Nat) (s : Mem) : Option Int32 :=
  B_X5_hasPower_2 fl s fl v0 (0 : Int32)
def B_X5_makesGaps_67 (k4 : Nat → Int32 → Int32 → Option Int32) (fl : Nat) (s : Mem) (v0 : Nat) (v1 : Int32) (v2 : Int32) : Option Int32 :=
  k4 v0 v1 (v2 + (1 : Int32))
def B_X5_makesGaps_4 (fl : Nat) (s : Mem) : Nat → Nat → Int32 → Int32 → Option Int32
  | 0 => fun _ _ _ => none
  | n + 1 => fun v0 v1 v2 =>
    bd (ldO s v0 0 3) fun r1 =>
    if (gI s r1 1) ≤ v2 then (
      if v1 ≤ 0 then (
        some (0 : Int32))
      else
      some (1 : Int32))
    else
    bd (ldA s v0 11 1) fun r5 =>
    gd (inR v2 r5.2) <|
    bd (ldA s v0 10 1) fun r8 =>
    gd (inR v2 r8.2) <|
    if (lg_cmp (gL s r5.1 v2.toNatClampNeg) (gL s r8.1 v2.toNatClampNeg)) = 0 then (
      B_X5_makesGaps_67 (B_X5_makesGaps_4 fl s n) fl s v0 v1 v2)
    else
    bd (ldO s v0 0 3) fun r12 =>
    bd (ldA s v0 11 1) fun r14 =>
    gd (inR v2 r14.2) <|
    bd (F_X1_gapEdges fl r12 (gL s r14.1 v2.toNatClampNeg) s) fun q17 =>
    bd (F_J13_bitCount_95d88 fl q17 s) fun q19 =>
    bd (ldO s v0 0 3) fun r21 =>
    bd (ldA s v0 10 1) fun r23 =>
    gd (inR v2 r23.2) <|
    bd (F_X1_gapEdges fl r21 (gL s r23.1 v2.toNatClampNeg) s) fun q26 =>
    bd (F_J13_bitCount_95d88 fl q26 s) fun q28 =>
    B_X5_makesGaps_67 (B_X5_makesGaps_4 fl s n) fl s v0 (v1 + (q19 - q28)) v2
def F_X5_makesGaps (fl : Nat) (v0 : Nat) (s : Mem) : Option Int32 :=
  B_X5_makesGaps_4 fl s fl v0 (0 : Int32) (0 : Int32)
def F_X5_isRight (fl : Nat) (v0 : Nat) (s : Mem) : Option (Int32 × Mem) :=
  bd (F_X5_seatAll fl v0 s) fun q1 =>
  if q1.1 = 0 then (
    some ((0 : Int32), q1.2))
  else
  bd (ldO q1.2 v0 0 3) fun r4 =>
  bd (ldO q1.2 v0 1 5) fun r6 =>
  bd (ldA q1.2 v0 11 1) fun r8 =>
  bd (ldA q1.2 v0 6 0) fun r10 =>
  gd (inR (0 : Int32) r10.2) <|
  gd (inR (gI q1.2 r10.1 (0 : Int32).toNatClampNeg) r8.2) <|
  bd (F_X1_isTooShort fl r4 r6 (gL q1.2 r8.1 (gI q1.2 r10.1 (0 : Int32).toNatClampNeg).toNatClampNeg) q1.2) fun q14 =>
  if q14 = 0 then (
    bd (F_X5_hasPower fl v0 q1.2) fun q17 =>
    if q17 = 0 then (
      some ((0 : Int32), q1.2))
    else
    bd (F_X5_makesGaps fl v0 q1.2) fun q20 =>
    if q20 = 0 then (
      some ((1 : Int32), q1.2))
    else
    some ((0 : Int32), q1.2))
  else
  some ((0 : Int32), q1.2)
def B_X5_chooseMove_76 (fl : Nat) (v0 : Nat) (v1 : Int32) (v2 : Int32) (v3 : Int32) (v4 : Nat) (w0 : Nat) (w1 : Int32) (w2 : Int32) (w3 : Int32) (s : Mem) : Option (Int32 × Mem) :=
  bd (aLen w0 0) fun N1 =>
  gd (inR w1 N1) <|
  bd (ldA (pI s w0 w1.toNatClampNeg (w2 - w3)) v0 9 0) fun r4 =>
  gd (inR v1 r4.2) <|
  if ((gI (pI s w0 w1.toNatClampNeg (w2 - w3)) v0 2) - v1) < (gI (pI s w0 w1.toNatClampNeg (w2 - w3)) r4.1 v1.toNatClampNeg) then (
    some ((0 : Int32), (pI s w0 w1.toNatClampNeg (w2 - w3))))
  else
  bd (ldO (pI s w0 w1.toNatClampNeg (w2 - w3)) v0 0 3) fun r8 =>
  bd (F_X1_hasFit fl r8 v4 v3 (pI s w0 w1.toNatClampNeg (w2 - w3))) fun q10 =>
  if q10 = 0 then (
    some ((0 : Int32), (pI s w0 w1.toNatClampNeg (w2 - w3))))
  else
  bd (ldA (pI s w0 w1.toNatClampNeg (w2 - w3)) v0 3 5) fun r13 =>
  gd (inR v1 r13.2) <|
  bd (ldA (pR (pI s w0 w1.toNatClampNeg (w2 - w3)) r13.1 v1.toNatClampNeg (some v4)) v0 4 0) fun r16 =>
  gd (inR v1 r16.2) <|
  bd (ldA (pI (pR (pI s w0 w1.toNatClampNeg (w2 - w3)) r13.1 v1.toNatClampNeg (some v4)) r16.1 v1.toNatClampNeg v2) v0 5 0) fun r19 =>
  gd (inR v1 r19.2) <|
  bd (ldA (pI (pI (pR (pI s w0 w1.toNatClampNeg (w2 - w3)) r13.1 v1.toNatClampNeg (some v4)) r16.1 v1.toNatClampNeg v2) r19.1 v1.toNatClampNeg (gI (pI (pR (pI s w0 w1.toNatClampNeg (w2 - w3)) r13.1 v1.toNatClampNeg (some v4)) r16.1 v1.toNatClampNeg v2) v4 7)) v0 6 0) fun r22 =>
  gd (inR v1 r22.2) <|
  bd (ldA (pI (pI (pI (pR (pI s w0 w1.toNatClampNeg (w2 - w3)) r13.1 v1.toNatClampNeg (some v4)) r16.1 v1.toNatClampNeg v2) r19.1 v1.toNatClampNeg (gI (pI (pR (pI s w0 w1.toNatClampNeg (w2 - w3)) r13.1 v1.toNatClampNeg (some v4)) r16.1 v1.toNatClampNeg v2) v4 7)) r22.1 v1.toNatClampNeg v3) v0 7 0) fun r25 =>
  bd (ldO (pI (pI (pI (pR (pI s w0 w1.toNatClampNeg (w2 - w3)) r13.1 v1.toNatClampNeg (some v4)) r16.1 v1.toNatClampNeg v2) r19.1 v1.toNatClampNeg (gI (pI (pR (pI s w0 w1.toNatClampNeg (w2 - w3)) r13.1 v1.toNatClampNeg (some v4)) r16.1 v1.toNatClampNeg v2) v4 7)) r22.1 v1.toNatClampNeg v3) v0 0 3) fun r27 =>
  bd (F_X1_circuitOf fl r27 (gI (pI (pI (pI (pR (pI s w0 w1.toNatClampNeg (w2 - w3)) r13.1 v1.toNatClampNeg (some v4)) r16.1 v1.toNatClampNeg v2) r19.1 v1.toNatClampNeg (gI (pI (pR (pI s w0 w1.toNatClampNeg (w2 - w3)) r13.1 v1.toNatClampNeg (some v4)) r16.1 v1.toNatClampNeg v2) v4 7)) r22.1 v1.toNatClampNeg v3) v4 7) (pI (pI (pI (pR (pI s w0 w1.toNatClampNeg (w2 - w3)) r13.1 v1.toNatClampNeg (some v4)) r16.1 v1.toNatClampNeg v2) r19.1 v1.toNatClampNeg (gI (pI (pR (pI s w0 w1.toNatClampNeg (w2 - w3)) r13.1 v1.toNatClampNeg (some v4)) r16.1 v1.toNatClampNeg v2) v4 7)) r22.1 v1.toNatClampNeg v3)) fun q29 =>
  gd (inR v1 r25.2) <|
  bd (ldA (pI (pI (pI (pI (pR (pI s w0 w1.toNatClampNeg (w2 - w3)) r13.1 v1.toNatClampNeg (some v4)) r16.1 v1.toNatClampNeg v2) r19.1 v1.toNatClampNeg (gI (pI (pR (pI s w0 w1.toNatClampNeg (w2 - w3)) r13.1 v1.toNatClampNeg (some v4)) r16.1 v1.toNatClampNeg v2) v4 7)) r22.1 v1.toNatClampNeg v3) r25.1 v1.toNatClampNeg q29) v0 8 0) fun r32 =>
  bd (ldO (pI (pI (pI (pI (pR (pI s w0 w1.toNatClampNeg (w2 - w3)) r13.1 v1.toNatClampNeg (some v4)) r16.1 v1.toNatClampNeg v2) r19.1 v1.toNatClampNeg (gI (pI (pR (pI s w0 w1.toNatClampNeg (w2 - w3)) r13.1 v1.toNatClampNeg (some v4)) r16.1 v1.toNatClampNeg v2) v4 7)) r22.1 v1.toNatClampNeg v3) r25.1 v1.toNatClampNeg q29) v0 0 3) fun r34 =>
  bd (F_X1_circuitOf fl r34 v3 (pI (pI (pI (pI (pR (pI s w0 w1.toNatClampNeg (w2 - w3)) r13.1 v1.toNatClampNeg (some v4)) r16.1 v1.toNatClampNeg v2) r19.1 v1.toNatClampNeg (gI (pI (pR (pI s w0 w1.toNatClampNeg (w2 - w3)) r13.1 v1.toNatClampNeg (some v4)) r16.1 v1.toNatClampNeg v2) v4 7)) r22.1 v1.toNatClampNeg v3) r25.1 v1.toNatClampNeg q29)) fun q36 =>
  gd (inR v1 r32.2) <|
  some ((1 : Int32), (pI (pI (pI (pI (pI (pR (pI s w0 w1.toNatClampNeg (w2 - w3)) r13.1 v1.toNatClampNeg (some v4)) r16.1 v1.toNatClampNeg v2) r19.1 v1.toNatClampNeg (gI (pI (pR (pI s w0 w1.toNatClampNeg (w2 - w3)) r13.1 v1.toNatClampNeg (some v4)) r16.1 v1.toNatClampNeg v2) v4 7)) r22.1 v1.toNatClampNeg v3) r25.1 v1.toNatClampNeg q29) r32.1 v1.toNatClampNeg q36))
def F_X5_chooseMove (fl : Nat) (v0 : Nat) (v1 : Int32) (v2 : Int32) (v3 : Int32) (s : Mem) : Option (Int32 × Mem) :=
  bd (ldO s v0 0 3) fun r39 =>
  bd (ldA s r39 2 5) fun r41 =>
  gd (inR v2 r41.2) <|
  bd (ldO s r41.1 v2.toNatClampNeg 5) fun r44 =>
  bd (ldO s v0 0 3) fun r46 =>
  bd (F_X1_isStillToCome fl r46 r44 s) fun q48 =>
  if q48 = 0 then (
    some ((0 : Int32), s))
  else
  bd (ldO s v0 0 3) fun r51 =>
  bd (F_X1_hasPitch fl r51 (gI s r44 7) s) fun q53 =>
  if q53 = 0 then (
    some ((0 : Int32), s))
  else
  if (gI s r44 7) = v3 then (
    some ((0 : Int32), s))
  else
  bd (ldA s v0 9 0) fun r57 =>
  bd (ldA s v0 9 0) fun r59 =>
  gd (inR (v1 - (1 : Int32)) r59.2) <|
  bd (F_X5_isInTheWay fl v0 r44 s) fun q62 =>
  if q62 = 0 then (
    B_X5_chooseMove_76 fl v0 v1 v2 v3 r44 r57.1 v1 (gI s r59.1 (v1 - (1 : Int32)).toNatClampNeg) (0 : Int32) s)
  else
  B_X5_chooseMove_76 fl v0 v1 v2 v3 r44 r57.1 v1 (gI s r59.1 (v1 - (1 : Int32)).toNatClampNeg) (1 : Int32) s
def B_X5_findMoves_128 (k25 : Nat → Int32 → Int32 → Mem → Option (Int32 × Mem)) (fl : Nat) (v0 : Nat) (v1 : Int32) (v2 : Int32) (s : Mem) : Option (Int32 × Mem) :=
  k25 v0 v1 (v2 + (1 : Int32)) s
def B_X5_findMoves_122 (k25 : Nat → Int32 → Int32 → Mem → Option (Int32 × Mem)) (k81 : Nat → Int32 → Int32 → Int32 → Mem → Option (Int32 × Mem)) (fl : Nat) (v0 : Nat) (v1 : Int32) (v2 : Int32) (v4 : Int32) (s : Mem) : Option (Int32 × Mem) :=
  k81 v0 v1 v2 (v4 + (1 : Int32)) s
def B_X5_findMoves_81 (k25 : Nat → Int32 → Int32 → Mem → Option (Int32 × Mem)) (fl : Nat) : Nat → Nat → Int32 → Int32 → Int32 → Mem → Option (Int32 × Mem)
  | 0 => fun _ _ _ _ _ => none
  | n + 1 => fun v0 v1 v2 v4 s =>
    if (gI s v0 2) = (2 : Int32) then (
      if v1 ≤ v4 then (
        B_X5_findMoves_128 k25 fl v0 v1 v2 s)
      else
      bd (F_X5_chooseMove fl v0 (2 : Int32) (v4 / (6 : Int32)) (v4 - v4 / (6 : Int32) * (6 : Int32)) s) fun q3 =>
      if q3.1 = 0 then (
        B_X5_findMoves_122 k25 (B_X5_findMoves_81 k25 fl n) fl v0 v1 v2 v4 q3.2)
      else
      bd (F_X5_isRight fl v0 q3.2) fun q6 =>
      if q6.1 = 0 then (
        B_X5_findMoves_122 k25 (B_X5_findMoves_81 k25 fl n) fl v0 v1 v2 v4 q6.2)
      else
      some ((1 : Int32), q6.2))
    else
    B_X5_findMoves_128 k25 fl v0 v1 v2 s
def B_X5_findMoves_66 (k25 : Nat → Int32 → Int32 → Mem → Option (Int32 × Mem)) (fl : Nat) (v0 : Nat) (v1 : Int32) (v2 : Int32) (s : Mem) : Option (Int32 × Mem) :=
  bd (ldA s v0 4 0) fun r9 =>
  gd (inR (1 : Int32) r9.2) <|
  B_X5_findMoves_81 k25 fl fl v0 v1 v2 (((gI s r9.1 (1 : Int32).toNatClampNeg) + (1 : Int32)) * (6 : Int32)) s
def B_X5_findMoves_25 (fl : Nat) : Nat → Nat → Int32 → Int32 → Mem → Option (Int32 × Mem)
  | 0 => fun _ _ _ _ => none
  | n + 1 => fun v0 v1 v2 s =>
    if v1 ≤ v2 then (
      some ((0 : Int32), s))
    else
    bd (F_X5_chooseMove fl v0 (1 : Int32) (v2 / (6 : Int32)) (v2 - v2 / (6 : Int32) * (6 : Int32)) s) fun q13 =>
    if q13.1 = 0 then (
      B_X5_findMoves_128 (B_X5_findMoves_25 fl n) fl v0 v1 v2 q13.2)
    else
    if (gI q13.2 v0 2) = (1 : Int32) then (
      bd (F_X5_isRight fl v0 q13.2) fun q17 =>
      if q17.1 = 0 then (
        B_X5_findMoves_66 (B_X5_findMoves_25 fl n) fl v0 v1 v2 q17.2)
      else
      some ((1 : Int32), q17.2))
    else
    B_X5_findMoves_66 (B_X5_findMoves_25 fl n) fl v0 v1 v2 q13.2
def F_X5_findMoves (fl : Nat) (v0 : Nat) (s : Mem) : Option (Int32 × Mem) :=
  if (gI s v0 2) = 0 then (
    bd (F_X5_isRight fl v0 s) fun q23 =>
    gd (q23.1 = 0 ∨ q23.1 = 1) <|
    some (q23.1, q23.2))
  else
  bd (ldO s v0 0 3) fun r21 =>
  B_X5_findMoves_25 fl fl v0 ((gI s r21 3) * (6 : Int32)) (0 : Int32) s
def B_X5_findBestPlan_55 (k10 : Nat → Int32 → Mem → Option (Int32 × Mem)) (k22 : Nat → Int32 → Int32 → Mem → Option (Int32 × Mem)) (fl : Nat) (v0 : Nat) (v1 : Int32) (v2 : Int32) (s : Mem) : Option (Int32 × Mem) :=
  k22 v0 v1 (v2 + (1 : Int32)) s
def B_X5_findBestPlan_22 (k10 : Nat → Int32 → Mem → Option (Int32 × Mem)) (fl : Nat) : Nat → Nat → Int32 → Int32 → Mem → Option (Int32 × Mem)
  | 0 => fun _ _ _ _ => none
  | n + 1 => fun v0 v1 v2 s =>
    bd (ldO s v0 0 3) fun r1 =>
    if (gI s r1 1) ≤ v2 then (
      k10 v0 (v1 + (1 : Int32)) s)
    else
    bd (ldA s v0 13 0) fun r4 =>
    gd (inR v2 r4.2) <|
    bd (F_X5_chooseGoal fl v0 (gI s r4.1 v2.toNatClampNeg) s) fun q7 =>
    if q7.1 = 0 then (
      B_X5_findBestPlan_55 k10 (B_X5_findBestPlan_22 k10 fl n) fl v0 v1 v2 q7.2)
    else
    bd (F_X5_findMoves fl v0 q7.2) fun q10 =>
    if q10.1 = 0 then (
      B_X5_findBestPlan_55 k10 (B_X5_findBestPlan_22 k10 fl n) fl v0 v1 v2 q10.2)
    else
    some ((1 : Int32), q10.2)
def B_X5_findBestPlan_10 (fl : Nat) : Nat → Nat → Int32 → Mem → Option (Int32 × Mem)
  | 0 => fun _ _ _ => none
  | n + 1 => fun v0 v1 s =>
    if (2 : Int32) < v1 then (
      some ((0 : Int32), s))
    else
    B_X5_findBestPlan_22 (B_X5_findBestPlan_10 fl n) fl fl v0 v1 (0 : Int32) (pI s v0 2 v1)
def F_X5_findBestPlan (fl : Nat) (v0 : Nat) (s : Mem) : Option (Int32 × Mem) :=
  bd (F_X5_survey fl v0 s) fun q14 =>
  bd (F_X5_sortPitches fl v0 q14) fun q16 =>
  B_X5_findBestPlan_10 fl fl v0 (0 : Int32) q16
def B_X5_writeMoves_2 (fl : Nat) : Nat → Nat → Nat → Int32 → Mem → Option (Int32 × Mem)
  | 0 => fun _ _ _ _ => none
  | n + 1 => fun v0 v1 v2 s =>
    if (gI s v0 2) < v2 then (
      some ((gI s v0 2), s))
    else
    bd (ldA s v0 4 0) fun r2 =>
    gd (inR v2 r2.2) <|
    bd (aLen v1 0) fun N5 =>
    gd (inR ((v2 - (1 : Int32)) * (3 : Int32)) N5) <|
    bd (ldA (pI s v1 ((v2 - (1 : Int32)) * (3 : Int32)).toNatClampNeg (gI s r2.1 v2.toNatClampNeg)) v0 5 0) fun r8 =>
    gd (inR v2 r8.2) <|
    gd (inR (((v2 - (1 : Int32)) * (3 : Int32)) + (1 : Int32)) N5) <|
    bd (ldA (pI (pI s v1 ((v2 - (1 : Int32)) * (3 : Int32)).toNatClampNeg (gI s r2.1 v2.toNatClampNeg)) v1 (((v2 - (1 : Int32)) * (3 : Int32)) + (1 : Int32)).toNatClampNeg (gI (pI s v1 ((v2 - (1 : Int32)) * (3 : Int32)).toNatClampNeg (gI s r2.1 v2.toNatClampNeg)) r8.1 v2.toNatClampNeg)) v0 6 0) fun r12 =>
    gd (inR v2 r12.2) <|
    gd (inR (((v2 - (1 : Int32)) * (3 : Int32)) + (2 : Int32)) N5) <|
    B_X5_writeMoves_2 fl n v0 v1 (v2 + (1 : Int32)) (pI (pI (pI s v1 ((v2 - (1 : Int32)) * (3 : Int32)).toNatClampNeg (gI s r2.1 v2.toNatClampNeg)) v1 (((v2 - (1 : Int32)) * (3 : Int32)) + (1 : Int32)).toNatClampNeg (gI (pI s v1 ((v2 - (1 : Int32)) * (3 : Int32)).toNatClampNeg (gI s r2.1 v2.toNatClampNeg)) r8.1 v2.toNatClampNeg)) v1 (((v2 - (1 : Int32)) * (3 : Int32)) + (2 : Int32)).toNatClampNeg (gI (pI (pI s v1 ((v2 - (1 : Int32)) * (3 : Int32)).toNatClampNeg (gI s r2.1 v2.toNatClampNeg)) v1 (((v2 - (1 : Int32)) * (3 : Int32)) + (1 : Int32)).toNatClampNeg (gI (pI s v1 ((v2 - (1 : Int32)) * (3 : Int32)).toNatClampNeg (gI s r2.1 v2.toNatClampNeg)) r8.1 v2.toNatClampNeg)) r12.1 v2.toNatClampNeg))
def F_X5_writeMoves (fl : Nat) (v0 : Nat) (v1 : Nat) (s : Mem) : Option (Int32 × Mem) :=
  B_X5_writeMoves_2 fl fl v0 v1 (1 : Int32) s
def B_X5_carryOut_2 (fl : Nat) : Nat → Nat → Int32 → Mem → Option (Int32 × Mem)
  | 0 => fun _ _ _ => none
  | n + 1 => fun v0 v1 s =>
    if (gI s v0 2) < v1 then (
      bd (ldO s v0 0 3) fun r2 =>
      bd (ldO s v0 1 5) fun r4 =>
      bd (ldA s v0 6 0) fun r6 =>
      gd (inR (0 : Int32) r6.2) <|
      bd (F_X1_makeParty fl r2 r4 (gI s r6.1 (0 : Int32).toNatClampNeg) s) fun q9 =>
      some (q9.1, q9.2))
    else
    bd (ldA s v0 3 5) fun r11 =>
    gd (inR v1 r11.2) <|
    bd (ldO s r11.1 v1.toNatClampNeg 5) fun r14 =>
    bd (ldA s v0 6 0) fun r16 =>
    gd (inR v1 r16.2) <|
    B_X5_carryOut_2 fl n v0 (v1 + (1 : Int32)) (pI s r14 7 (gI s r16.1 v1.toNatClampNeg))
def F_X5_carryOut (fl : Nat) (v0 : Nat) (s : Mem) : Option (Int32 × Mem) :=
  B_X5_carryOut_2 fl fl v0 (1 : Int32) s
def F_X7_isWithin (fl : Nat) (v0 : Int32) (v1 : Int32) (v2 : Int32) (s : Mem) : Option Int32 :=
  if v0 < v1 then (
    some (0 : Int32))
  else
  if v2 < v0 then (
    some (0 : Int32))
  else
  some (1 : Int32)
def B_X7_addPitch_39 (fl : Nat) (s : Mem) : Option ((Nat ⊕ Int32) × Mem) :=
  some (.inl 1, s)
def F_X7_addPitch (fl : Nat) (v0 : Nat) (v1 : Int32) (v2 : Int32) (v3 : Int32) (v4 : Int32) (s : Mem) : Option ((Nat ⊕ Int32) × Mem) :=
  bd (F_X7_isWithin fl v1 (0 : Int32) (2 : Int32) s) fun q1 =>
  if q1 = 0 then (
    B_X7_addPitch_39 fl s)
  else
  bd (F_X7_isWithin fl v2 (2 : Int32) (12 : Int32) s) fun q4 =>
  if q4 = 0 then (
    B_X7_addPitch_39 fl s)
  else
  bd (F_X7_isWithin fl v3 (2 : Int32) (12 : Int32) s) fun q7 =>
  if q7 = 0 then (
    B_X7_addPitch_39 fl s)
  else
  bd (F_X7_isWithin fl v4 (-1 : Int32) (2 : Int32) s) fun q10 =>
  if q10 = 0 then (
    B_X7_addPitch_39 fl s)
  else
  bd (ldO s v0 1 3) fun r13 =>
  if (gI s r13 1) < (6 : Int32) then (
    bd (ldO s v0 4 4) fun r16 =>
    bd (ldO s v0 1 3) fun r18 =>
    bd (F_X2_keep fl r16 r18 s) fun q20 =>
    bd (ldO q20 v0 1 3) fun r22 =>
    bd (F_X1_makePitch fl r22 v1 v2 v3 v4 q20) fun q24 =>
    some (.inr q24.1, q24.2))
  else
  some (.inl 2, s)
def F_X7_requirePitch (fl : Nat) (v0 : Nat) (v1 : Int32) (s : Mem) : Option ((Nat ⊕ Unit) × Mem) :=
  bd (ldO s v0 1 3) fun r1 =>
  bd (F_X1_hasPitch fl r1 v1 s) fun q3 =>
  if q3 = 0 then (
    some (.inl 3, s))
  else
  some (.inr (), s)
def F_X7_pitch (fl : Nat) (v0 : Nat) (v1 : Int32) (v2 : Int32) (s : Mem) : Option ((Nat ⊕ Int32) × Mem) :=
  bd (F_X7_requirePitch fl v0 v1 s) fun q1 =>
  xb q1 fun u9 s3 =>
  bd (ldO s3 v0 1 3) fun r7 =>
  bd (ldA s3 r7 0 4) fun r9 =>
  gd (inR v1 r9.2) <|
  bd (ldO s3 r9.1 v1.toNatClampNeg 6) fun r12 =>
  if v2 = 0 then (
    some (.inr (gI s3 r12 0), s3))
  else
  if v2 = 1 then (
    some (.inr (gI s3 r12 1), s3))
  else
  if v2 = 2 then (
    some (.inr (gI s3 r12 2), s3))
  else
  if v2 = 3 then (
    some (.inr (gI s3 r12 3), s3))
  else
  if v2 = 4 then (
    some (.inr (gI s3 r12 4), s3))
  else
  if v2 = 5 then (
    bd (ldO s3 v0 1 3) fun r20 =>
    bd (F_X1_busyNights fl r20 v1 (-1 : Int32) s3) fun q22 =>
    bd (F_J13_bitCount_95d88 fl q22 s3) fun q24 =>
    some (.inr q24, s3))
  else
  if v2 = 6 then (
    bd (ldO s3 v0 1 3) fun r27 =>
    bd (ldO s3 v0 1 3) fun r29 =>
    bd (F_X1_busyNights fl r29 v1 (-1 : Int32) s3) fun q31 =>
    bd (F_X1_countGaps fl r27 q31 s3) fun q33 =>
    some (.inr q33, s3))
  else
  some (.inl 1, s3)
def F_X7_requireCircuit (fl : Nat) (v0 : Int32) (s : Mem) : Option ((Nat ⊕ Unit) × Mem) :=
  bd (F_X7_isCircuit fl v0 s) fun q1 =>
  if q1 = 0 then (
    some (.inl 3, s))
  else
  some (.inr (), s)
def F_X7_setLimit (fl : Nat) (v0 : Nat) (v1 : Int32) (v2 : Int32) (s : Mem) : Option ((Nat ⊕ Int32) × Mem) :=
  bd (F_X7_requireCircuit fl v1 s) fun q1 =>
  xb q1 fun u9 s3 =>
  bd (F_X7_isWithin fl v2 (0 : Int32) (40 : Int32) s3) fun q7 =>
  if q7 = 0 then (
    some (.inl 1, s3))
  else
  bd (ldO s3 v0 4 4) fun r10 =>
  bd (ldO s3 v0 1 3) fun r12 =>
  bd (F_X2_keep fl r10 r12 s3) fun q14 =>
  bd (ldO q14 v0 1 3) fun r16 =>
  bd (ldA q14 r16 6 0) fun r18 =>
  gd (inR v1 r18.2) <|
  bd (ldO q14 v0 1 3) fun r21 =>
  bd (ldA q14 r21 6 0) fun r23 =>
  gd (inR v1 r23.2) <|
  some (.inr (gI q14 r18.1 v1.toNatClampNeg), (pI q14 r23.1 v1.toNatClampNeg v2))
def F_X7_setRate (fl : Nat) (v0 : Nat) (v1 : Int32) (v2 : Int32) (s : Mem) : Option ((Nat ⊕ Int32) × Mem) :=
  bd (F_X7_requirePitch fl v0 v1 s) fun q1 =>
  xb q1 fun u9 s3 =>
  bd (F_X7_isWithin fl v2 (1 : Int32) (99 : Int32) s3) fun q7 =>
  if q7 = 0 then (
    some (.inl 1, s3))
  else
  bd (ldO s3 v0 4 4) fun r10 =>
  bd (ldO s3 v0 1 3) fun r12 =>
  bd (F_X2_keep fl r10 r12 s3) fun q14 =>
  bd (ldO q14 v0 1 3) fun r16 =>
  bd (ldA q14 r16 0 4) fun r18 =>
  gd (inR v1 r18.2) <|
  bd (ldO q14 r18.1 v1.toNatClampNeg 6) fun r21 =>
  bd (ldO q14 v0 1 3) fun r23 =>
  bd (ldA q14 r23 0 4) fun r25 =>
  gd (inR v1 r25.2) <|
  bd (ldO q14 r25.1 v1.toNatClampNeg 6) fun r28 =>
  some (.inr (gI q14 r21 4), (pI q14 r28 4 v2))
def F_X7_setGap (fl : Nat) (v0 : Nat) (v1 : Int32) (s : Mem) : Option ((Nat ⊕ Int32) × Mem) :=
  bd (F_X7_isWithin fl v1 (0 : Int32) (5 : Int32) s) fun q1 =>
  if q1 = 0 then (
    some (.inl 1, s))
  else
  bd (ldO s v0 4 4) fun r4 =>
  bd (ldO s v0 1 3) fun r6 =>
  bd (F_X2_keep fl r4 r6 s) fun q8 =>
  bd (ldO q8 v0 1 3) fun r10 =>
  bd (ldO q8 v0 1 3) fun r12 =>
  some (.inr (gI q8 r10 7), (pI q8 r12 7 v1))
def F_X7_isNight (fl : Nat) (v0 : Int32) (s : Mem) : Option Int32 :=
  if v0 < 0 then (
    some (0 : Int32))
  else
  if (60 : Int32) ≤ v0 then (
    some (0 : Int32))
  else
  some (1 : Int32)
def B_X7_addSeason_29 (fl : Nat) (s : Mem) : Option ((Nat ⊕ Int32) × Mem) :=
  some (.inl 1, s)
def F_X7_addSeason (fl : Nat) (v0 : Nat) (v1 : Int32) (v2 : Int32) (v3 : Int32) (s : Mem) : Option ((Nat ⊕ Int32) × Mem) :=
  bd (F_X7_isNight fl v1 s) fun q1 =>
  if q1 = 0 then (
    B_X7_addSeason_29 fl s)
  else
  bd (F_X7_isNight fl v2 s) fun q4 =>
  if q4 = 0 then (
    B_X7_addSeason_29 fl s)
  else
  if v2 < v1 then (
    B_X7_addSeason_29 fl s)
  else
  bd (F_X7_isWithin fl v3 (1 : Int32) (14 : Int32) s) fun q8 =>
  if q8 = 0 then (
    B_X7_addSeason_29 fl s)
  else
  bd (ldO s v0 1 3) fun r11 =>
  if (gI s r11 5) < (4 : Int32) then (
    bd (ldO s v0 4 4) fun r14 =>
    bd (ldO s v0 1 3) fun r16 =>
    bd (F_X2_keep fl r14 r16 s) fun q18 =>
    bd (ldO q18 v0 1 3) fun r20 =>
    bd (F_X1_makeSeason fl r20 v1 v2 v3 q18) fun q22 =>
    some (.inr q22.1, q22.2))
  else
  some (.inl 2, s)
def F_X7_requireSeason (fl : Nat) (v0 : Nat) (v1 : Int32) (s : Mem) : Option ((Nat ⊕ Unit) × Mem) :=
  bd (ldO s v0 1 3) fun r1 =>
  bd (F_X7_isWithin fl v1 (0 : Int32) ((gI s r1 5) - (1 : Int32)) s) fun q3 =>
  if q3 = 0 then (
    some (.inl 3, s))
  else
  some (.inr (), s)
def F_X7_dropSeason (fl : Nat) (v0 : Nat) (v1 : Int32) (s : Mem) : Option ((Nat ⊕ Int32) × Mem) :=
  bd (F_X7_requireSeason fl v0 v1 s) fun q1 =>
  xb q1 fun u9 s3 =>
  bd (ldO s3 v0 4 4) fun r7 =>
  bd (ldO s3 v0 1 3) fun r9 =>
  bd (F_X2_keep fl r7 r9 s3) fun q11 =>
  bd (ldO q11 v0 1 3) fun r13 =>
  bd (F_X1_removeSeason fl r13 v1 q11) fun q15 =>
  bd (ldO q15 v0 1 3) fun r17 =>
  some (.inr (gI q15 r17 5), q15)
def F_X7_season (fl : Nat) (v0 : Nat) (v1 : Int32) (v2 : Int32) (s : Mem) : Option ((Nat ⊕ Int32) × Mem) :=
  bd (F_X7_requireSeason fl v0 v1 s) fun q1 =>
  xb q1 fun u9 s3 =>
  bd (ldO s3 v0 1 3) fun r7 =>
  bd (ldA s3 r7 4 6) fun r9 =>
  gd (inR v1 r9.2) <|
  bd (ldO s3 r9.1 v1.toNatClampNeg 8) fun r12 =>
  if v2 = 0 then (
    some (.inr (gI s3 r12 0), s3))
  else
  if v2 = 1 then (
    some (.inr (gI s3 r12 1), s3))
  else
  if v2 = 2 then (
    some (.inr (gI s3 r12 2), s3))
  else
  some (.inl 1, s3)
def F_X7_isStay (fl : Nat) (v0 : Int32) (v1 : Int32) (s : Mem) : Option Int32 :=
  bd (F_X7_isNight fl v0 s) fun q1 =>
  if q1 = 0 then (
    some (0 : Int32))
  else
  bd (F_X7_isWithin fl v1 (1 : Int32) (14 : Int32) s) fun q4 =>
  if q4 = 0 then (
    some (0 : Int32))
  else
  if ((60 : Int32) - v0) < v1 then (
    some (0 : Int32))
  else
  some (1 : Int32)
def F_X7_leastStay (fl : Nat) (v0 : Nat) (v1 : Int32) (v2 : Int32) (s : Mem) : Option ((Nat ⊕ Int32) × Mem) :=
  bd (F_X7_isStay fl v1 v2 s) fun q1 =>
  if q1 = 0 then (
    some (.inl 1, s))
  else
  bd (ldO s v0 1 3) fun r4 =>
  bd (F_X1_stayAsked fl r4 v1 v2 s) fun q6 =>
  some (.inr q6, s)
def B_X7_book_62 (fl : Nat) (s : Mem) : Option ((Nat ⊕ Int32) × Mem) :=
  some (.inl 1, s)
def F_X7_book (fl : Nat) (v0 : Nat) (v1 : Int32) (v2 : Int32) (v3 : Int32) (v4 : Int32) (v5 : Int32) (v6 : Int32) (s : Mem) : Option ((Nat ⊕ Int32) × Mem) :=
  bd (F_X7_isWithin fl v1 (0 : Int32) (2 : Int32) s) fun q1 =>
  if q1 = 0 then (
    B_X7_book_62 fl s)
  else
  bd (F_X7_isWithin fl v2 (1 : Int32) (12 : Int32) s) fun q4 =>
  if q4 = 0 then (
    B_X7_book_62 fl s)
  else
  bd (F_X7_isWithin fl v3 (1 : Int32) (12 : Int32) s) fun q7 =>
  if q7 = 0 then (
    B_X7_book_62 fl s)
  else
  bd (F_X7_isWithin fl v4 (0 : Int32) (16 : Int32) s) fun q10 =>
  if q10 = 0 then (
    B_X7_book_62 fl s)
  else
  bd (F_X7_isStay fl v5 v6 s) fun q13 =>
  if q13 = 0 then (
    B_X7_book_62 fl s)
  else
  bd (ldO s v0 1 3) fun r16 =>
  if (gI s r16 8) ≤ v5 then (
    bd (ldO s v0 1 3) fun r19 =>
    if (gI s r19 3) < (12 : Int32) then (
      bd (ldO s v0 0 7) fun r22 =>
      bd (ldO s r22 1 5) fun r24 =>
      bd (F_X3_describe fl r24 v1 v2 v3 v4 v5 v6 s) fun q26 =>
      bd (ldO q26 v0 0 7) fun r28 =>
      bd (F_X5_findBestPlan fl r28 q26) fun q30 =>
      if q30.1 = 0 then (
        bd (ldO q30.2 v0 1 3) fun r49 =>
        bd (ldO q30.2 v0 0 7) fun r51 =>
        bd (ldO q30.2 r51 1 5) fun r53 =>
        bd (F_X1_greatestObstacle fl r49 r53 q30.2) fun q55 =>
        some (.inl 5, (pI q30.2 v0 6 q55)))
      else
      bd (ldO q30.2 v0 4 4) fun r33 =>
      bd (ldO q30.2 v0 1 3) fun r35 =>
      bd (F_X2_keep fl r33 r35 q30.2) fun q37 =>
      bd (ldO q37 v0 0 7) fun r39 =>
      bd (ldA q37 v0 8 0) fun r41 =>
      bd (F_X5_writeMoves fl r39 r41.1 q37) fun q43 =>
      bd (ldO (pI q43.2 v0 7 q43.1) v0 0 7) fun r45 =>
      bd (F_X5_carryOut fl r45 (pI q43.2 v0 7 q43.1)) fun q47 =>
      some (.inr q47.1, q47.2))
    else
    some (.inl 2, s))
  else
  B_X7_book_62 fl s
def F_X7_append (fl : Nat) (v0 : Nat) (v1 : Int32) (s : Mem) : Option ((Nat ⊕ Unit) × Mem) :=
  bd (ldO s v0 5 2) fun r1 =>
  bd (F_X0_add fl r1 v1 s) fun q3 =>
  if q3.1 = 0 then (
    some (.inl 2, q3.2))
  else
  some (.inr (), q3.2)
def F_X7_readBooking (fl : Nat) (v0 : Nat) (s : Mem) : Option ((Nat ⊕ Int32) × Mem) :=
  bd (ldO s v0 5 2) fun r1 =>
  bd (F_X0_parse fl r1 s) fun q3 =>
  if q3.1 = 0 then (
    some (.inl 1, q3.2))
  else
  bd (ldO q3.2 v0 5 2) fun r6 =>
  bd (ldA q3.2 r6 5 0) fun r8 =>
  bd (ldO q3.2 v0 5 2) fun r10 =>
  gd (inR (0 : Int32) r8.2) <|
  gd (inR (1 : Int32) r8.2) <|
  gd (inR (4 : Int32) r8.2) <|
  gd (inR (2 : Int32) r8.2) <|
  gd (inR (3 : Int32) r8.2) <|
  bd (F_X7_book fl v0 (gI q3.2 r10 4) (gI q3.2 r8.1 (0 : Int32).toNatClampNeg) (gI q3.2 r8.1 (1 : Int32).toNatClampNeg) (gI q3.2 r8.1 (4 : Int32).toNatClampNeg) (gI q3.2 r8.1 (2 : Int32).toNatClampNeg) (gI q3.2 r8.1 (3 : Int32).toNatClampNeg) q3.2) fun q17 =>
  xb q17 fun x19 s20 =>
  some (.inr x19, s20)
def F_X7_faultPosition (fl : Nat) (v0 : Nat) (s : Mem) : Option Int32 :=
  bd (ldO s v0 5 2) fun r1 =>
  some (gI s r1 3)
def F_X7_refusal (fl : Nat) (v0 : Nat) (s : Mem) : Option ((Nat ⊕ Int32) × Mem) :=
  if (gI s v0 6) = 0 then (
    some (.inl 6, s))
  else
  some (.inr (gI s v0 6), s)
def F_X7_requireParty (fl : Nat) (v0 : Nat) (v1 : Int32) (s : Mem) : Option ((Nat ⊕ Unit) × Mem) :=
  bd (ldO s v0 1 3) fun r1 =>
  bd (F_X7_isWithin fl v1 (0 : Int32) ((gI s r1 3) - (1 : Int32)) s) fun q3 =>
  if q3 = 0 then (
    some (.inl 3, s))
  else
  some (.inr (), s)
def F_X7_party (fl : Nat) (v0 : Nat) (v1 : Int32) (v2 : Int32) (s : Mem) : Option ((Nat ⊕ Int32) × Mem) :=
  bd (F_X7_requireParty fl v0 v1 s) fun q1 =>
  xb q1 fun u9 s3 =>
  bd (ldO s3 v0 1 3) fun r7 =>
  bd (ldA s3 r7 2 5) fun r9 =>
  gd (inR v1 r9.2) <|
  bd (ldO s3 r9.1 v1.toNatClampNeg 5) fun r12 =>
  if v2 = 0 then (
    some (.inr (gI s3 r12 0), s3))
  else
  if v2 = 1 then (
    some (.inr (gI s3 r12 1), s3))
  else
  if v2 = 2 then (
    some (.inr (gI s3 r12 2), s3))
  else
  if v2 = 3 then (
    some (.inr (gI s3 r12 3), s3))
  else
  if v2 = 4 then (
    some (.inr (gI s3 r12 4), s3))
  else
  if v2 = 5 then (
    some (.inr (gI s3 r12 5), s3))
  else
  if v2 = 6 then (
    some (.inr (gI s3 r12 7), s3))
  else
  if v2 = 7 then (
    some (.inr (gI s3 r12 8), s3))
  else
  if v2 = 8 then (
    if (gI s3 r12 10) = 0 then (
      some (.inr (0 : Int32), s3))
    else
    some (.inr (1 : Int32), s3))
  else
  if v2 = 9 then (
    some (.inr (gI s3 r12 9), s3))
  else
  some (.inl 1, s3)
def F_X7_moves (fl : Nat) (v0 : Nat) (s : Mem) : Option Int32 :=
  some (gI s v0 7)
def F_X7_moveOf (fl : Nat) (v0 : Nat) (v1 : Int32) (v2 : Int32) (s : Mem) : Option ((Nat ⊕ Int32) × Mem) :=
  bd (F_X7_isWithin fl v1 (0 : Int32) ((gI s v0 7) - (1 : Int32)) s) fun q1 =>
  if q1 = 0 then (
    some (.inl 6, s))
  else
  bd (F_X7_isWithin fl v2 (0 : Int32) (2 : Int32) s) fun q4 =>
  if q4 = 0 then (
    some (.inl 1, s))
  else
  bd (ldA s v0 8 0) fun r7 =>
  gd (inR ((v1 * (3 : Int32)) + v2) r7.2) <|
  some (.inr (gI s r7.1 ((v1 * (3 : Int32)) + v2).toNatClampNeg), s)
def B_X7_move_39 (fl : Nat) (s : Mem) : Option ((Nat ⊕ Int32) × Mem) :=
  some (.inl 2, s)
def F_X7_move (fl : Nat) (v0 : Nat) (v1 : Int32) (v2 : Int32) (s : Mem) : Option ((Nat ⊕ Int32) × Mem) :=
  bd (F_X7_requireParty fl v0 v1 s) fun q1 =>
  xb q1 fun u9 s3 =>
  bd (F_X7_requirePitch fl v0 v2 s3) fun q7 =>
  xb q7 fun u9 s9 =>
  bd (ldO s9 v0 1 3) fun r13 =>
  bd (ldA s9 r13 2 5) fun r15 =>
  gd (inR v1 r15.2) <|
  bd (ldO s9 r15.1 v1.toNatClampNeg 5) fun r18 =>
  bd (ldO s9 v0 1 3) fun r20 =>
  bd (F_X1_isStillToCome fl r20 r18 s9) fun q22 =>
  if q22 = 0 then (
    B_X7_move_39 fl s9)
  else
  if (gI s9 r18 7) = v2 then (
    B_X7_move_39 fl s9)
  else
  bd (ldO s9 v0 1 3) fun r26 =>
  bd (F_X1_obstacleOf fl r26 r18 v1 v2 s9) fun q28 =>
  bd (F_X7_isWithin fl q28 (1 : Int32) (3 : Int32) s9) fun q30 =>
  if q30 = 0 then (
    bd (ldO s9 v0 4 4) fun r33 =>
    bd (ldO s9 v0 1 3) fun r35 =>
    bd (F_X2_keep fl r33 r35 s9) fun q37 =>
    some (.inr (gI q37 r18 7), (pI q37 r18 7 v2)))
  else
  some (.inl 5, s9)
def F_X7_cancel (fl : Nat) (v0 : Nat) (v1 : Int32) (s : Mem) : Option ((Nat ⊕ Int32) × Mem) :=
  bd (F_X7_requireParty fl v0 v1 s) fun q1 =>
  xb q1 fun u9 s3 =>
  bd (ldO s3 v0 1 3) fun r7 =>
  bd (ldA s3 r7 2 5) fun r9 =>
  gd (inR v1 r9.2) <|
  bd (ldO s3 r9.1 v1.toNatClampNeg 5) fun r12 =>
  bd (ldO s3 v0 1 3) fun r14 =>
  bd (F_X1_isStillToCome fl r14 r12 s3) fun q16 =>
  if q16 = 0 then (
    some (.inl 2, s3))
  else
  bd (ldO s3 v0 4 4) fun r19 =>
  bd (ldO s3 v0 1 3) fun r21 =>
  bd (F_X2_keep fl r19 r21 s3) fun q23 =>
  bd (ldO (pI q23 r12 10 (0 : Int32)) v0 1 3) fun r25 =>
  bd (F_X3_feeAt fl r12 (gI (pI q23 r12 10 (0 : Int32)) r25 8) (pI q23 r12 10 (0 : Int32))) fun q27 =>
  some (.inr (gI (pI (pI q23 r12 10 (0 : Int32)) r12 9 q27) r12 9), (pI (pI q23 r12 10 (0 : Int32)) r12 9 q27))
def F_X7_advance (fl : Nat) (v0 : Nat) (v1 : Int32) (s : Mem) : Option ((Nat ⊕ Int32) × Mem) :=
  bd (ldO s v0 1 3) fun r1 =>
  bd (F_X7_isWithin fl v1 (0 : Int32) ((60 : Int32) - (gI s r1 8)) s) fun q3 =>
  if q3 = 0 then (
    some (.inl 1, s))
  else
  bd (ldO s v0 4 4) fun r6 =>
  bd (ldO s v0 1 3) fun r8 =>
  bd (F_X2_keep fl r6 r8 s) fun q10 =>
  bd (ldO q10 v0 1 3) fun r12 =>
  bd (ldO q10 v0 1 3) fun r14 =>
  bd (ldO (pI q10 r14 8 ((gI q10 r12 8) + v1)) v0 1 3) fun r16 =>
  bd (ldO (pI q10 r14 8 ((gI q10 r12 8) + v1)) v0 1 3) fun r18 =>
  bd (F_X1_countArrivals fl r16 (gI q10 r12 8) (gI (pI q10 r14 8 ((gI q10 r12 8) + v1)) r18 8) (pI q10 r14 8 ((gI q10 r12 8) + v1))) fun q20 =>
  some (.inr q20, (pI q10 r14 8 ((gI q10 r12 8) + v1)))
def F_X7_tonight (fl : Nat) (v0 : Nat) (s : Mem) : Option Int32 :=
  bd (ldO s v0 1 3) fun r1 =>
  some (gI s r1 8)
def F_X7_obstacle (fl : Nat) (v0 : Nat) (v1 : Int32) (v2 : Int32) (s : Mem) : Option ((Nat ⊕ Int32) × Mem) :=
  bd (F_X7_requireParty fl v0 v1 s) fun q1 =>
  xb q1 fun u9 s3 =>
  bd (F_X7_requirePitch fl v0 v2 s3) fun q7 =>
  xb q7 fun u9 s9 =>
  bd (ldO s9 v0 1 3) fun r13 =>
  bd (ldO s9 v0 1 3) fun r15 =>
  bd (ldA s9 r15 2 5) fun r17 =>
  gd (inR v1 r17.2) <|
  bd (ldO s9 r17.1 v1.toNatClampNeg 5) fun r20 =>
  bd (F_X1_obstacleOf fl r13 r20 v1 v2 s9) fun q22 =>
  some (.inr q22, s9)
def F_X7_requireNight (fl : Nat) (v0 : Int32) (s : Mem) : Option ((Nat ⊕ Unit) × Mem) :=
  bd (F_X7_isNight fl v0 s) fun q1 =>
  if q1 = 0 then (
    some (.inl 3, s))
  else
  some (.inr (), s)
def F_X7_occupant (fl : Nat) (v0 : Nat) (v1 : Int32) (v2 : Int32) (s : Mem) : Option ((Nat ⊕ Int32) × Mem) :=
  bd (F_X7_requirePitch fl v0 v1 s) fun q1 =>
  xb q1 fun u9 s3 =>
  bd (F_X7_requireNight fl v2 s3) fun q7 =>
  xb q7 fun u9 s9 =>
  bd (ldO s9 v0 1 3) fun r13 =>
  bd (F_X1_partyAt fl r13 v1 v2 s9) fun q15 =>
  some (.inr q15, s9)
def B_X7_nightAt_32 (k5 : Int64 → Int32 → Int32 → Int32 → Option Int32) (fl : Nat) (s : Mem) (v0 : Int64) (v2 : Int32) (v3 : Int32) (v4 : Int32) : Option Int32 :=
  k5 v0 v2 v3 (v4 + (1 : Int32))
def B_X7_nightAt_5 (fl : Nat) (s : Mem) : Nat → Int64 → Int32 → Int32 → Int32 → Option Int32
  | 0 => fun _ _ _ _ => none
  | n + 1 => fun v0 v2 v3 v4 =>
    if (60 : Int32) ≤ v4 then (
      some (60 : Int32))
    else
    bd (F_X7_holds fl v0 v4 s) fun q2 =>
    if q2 = 0 then (
      B_X7_nightAt_32 (B_X7_nightAt_5 fl s n) fl s v0 v2 v3 v4)
    else
    if v3 = v2 then (
      some v4)
    else
    B_X7_nightAt_32 (B_X7_nightAt_5 fl s n) fl s v0 v2 (v3 + (1 : Int32)) v4
def F_X7_nightAt (fl : Nat) (v0 : Int64) (v2 : Int32) (s : Mem) : Option Int32 :=
  B_X7_nightAt_5 fl s fl v0 v2 (0 : Int32) (0 : Int32)
def F_X7_busyNight (fl : Nat) (v0 : Nat) (v1 : Int32) (v2 : Int32) (s : Mem) : Option ((Nat ⊕ Int32) × Mem) :=
  bd (F_X7_requirePitch fl v0 v1 s) fun q1 =>
  xb q1 fun u9 s3 =>
  bd (ldO s3 v0 1 3) fun r7 =>
  bd (F_X1_busyNights fl r7 v1 (-1 : Int32) s3) fun q9 =>
  bd (F_X7_nightAt fl q9 v2 s3) fun q11 =>
  if q11 < (60 : Int32) then (
    some (.inr q11, s3))
  else
  some (.inl 6, s3)
def B_X7_freeFrom_3 (fl : Nat) (s : Mem) : Nat → Int64 → Int32 → Int32 → Option Int32
  | 0 => fun _ _ _ => none
  | n + 1 => fun v0 v3 v4 =>
    if ((60 : Int32) - v3) < v4 then (
      some (60 : Int32))
    else
    bd (F_X7_stayOf fl v4 v3 s) fun q2 =>
    if (lg_cmp (v0 &&& q2) (0 : Int64)) = 0 then (
      some v4)
    else
    B_X7_freeFrom_3 fl s n v0 v3 (v4 + (1 : Int32))
def F_X7_freeFrom (fl : Nat) (v0 : Int64) (v2 : Int32) (v3 : Int32) (s : Mem) : Option Int32 :=
  B_X7_freeFrom_3 fl s fl v0 v3 v2
def B_X7_firstFree_22 (fl : Nat) (s : Mem) : Option ((Nat ⊕ Int32) × Mem) :=
  some (.inl 1, s)
def F_X7_firstFree (fl : Nat) (v0 : Nat) (v1 : Int32) (v2 : Int32) (v3 : Int32) (s : Mem) : Option ((Nat ⊕ Int32) × Mem) :=
  bd (F_X7_requirePitch fl v0 v1 s) fun q1 =>
  xb q1 fun u9 s3 =>
  bd (F_X7_isNight fl v2 s3) fun q7 =>
  if q7 = 0 then (
    B_X7_firstFree_22 fl s3)
  else
  bd (F_X7_isWithin fl v3 (1 : Int32) (14 : Int32) s3) fun q10 =>
  if q10 = 0 then (
    B_X7_firstFree_22 fl s3)
  else
  bd (ldO s3 v0 1 3) fun r13 =>
  bd (F_X1_busyNights fl r13 v1 (-1 : Int32) s3) fun q15 =>
  bd (F_X7_freeFrom fl q15 v2 v3 s3) fun q17 =>
  if q17 < (60 : Int32) then (
    some (.inr q17, s3))
  else
  some (.inl 6, s3)
def F_X7_power (fl : Nat) (v0 : Nat) (v1 : Int32) (v2 : Int32) (s : Mem) : Option ((Nat ⊕ Int32) × Mem) :=
  bd (F_X7_requireCircuit fl v1 s) fun q1 =>
  xb q1 fun u9 s3 =>
  bd (F_X7_requireNight fl v2 s3) fun q7 =>
  xb q7 fun u9 s9 =>
  bd (ldO s9 v0 1 3) fun r13 =>
  bd (F_X1_powerUsed fl r13 v1 v2 (-1 : Int32) s9) fun q15 =>
  some (.inr q15, s9)
def B_X7_peak_44 (k12 : Nat → Int32 → Int32 → Int32 → Int32 → Mem → Option ((Nat ⊕ Int32) × Mem)) (fl : Nat) (v0 : Nat) (v1 : Int32) (v2 : Int32) (v3 : Int32) (v4 : Int32) (s : Mem) : Option ((Nat ⊕ Int32) × Mem) :=
  k12 v0 v1 v2 v3 (v4 + (1 : Int32)) s
def B_X7_peak_12 (fl : Nat) : Nat → Nat → Int32 → Int32 → Int32 → Int32 → Mem → Option ((Nat ⊕ Int32) × Mem)
  | 0 => fun _ _ _ _ _ _ => none
  | n + 1 => fun v0 v1 v2 v3 v4 s =>
    if (60 : Int32) ≤ v4 then (
      if v2 < (60 : Int32) then (
        some (.inr v2, s))
      else
      some (.inl 6, s))
    else
    bd (ldO s v0 1 3) fun r3 =>
    bd (F_X1_powerUsed fl r3 v1 v4 (-1 : Int32) s) fun q5 =>
    if q5 ≤ v3 then (
      B_X7_peak_44 (B_X7_peak_12 fl n) fl v0 v1 v2 v3 v4 s)
    else
    B_X7_peak_44 (B_X7_peak_12 fl n) fl v0 v1 v4 q5 v4 s
def F_X7_peak (fl : Nat) (v0 : Nat) (v1 : Int32) (s : Mem) : Option ((Nat ⊕ Int32) × Mem) :=
  bd (F_X7_requireCircuit fl v1 s) fun q8 =>
  xb q8 fun u9 s10 =>
  B_X7_peak_12 fl fl v0 v1 (60 : Int32) (0 : Int32) (0 : Int32) s10
def B_X7_nextBusy_2 (fl : Nat) (s : Mem) : Nat → Int64 → Int32 → Option Int32
  | 0 => fun _ _ => none
  | n + 1 => fun v0 v3 =>
    if (60 : Int32) ≤ v3 then (
      some v3)
    else
    bd (F_X7_holds fl v0 v3 s) fun q2 =>
    if q2 = 0 then (
      B_X7_nextBusy_2 fl s n v0 (v3 + (1 : Int32)))
    else
    some v3
def F_X7_nextBusy (fl : Nat) (v0 : Int64) (v2 : Int32) (s : Mem) : Option Int32 :=
  B_X7_nextBusy_2 fl s fl v0 v2
def F_X7_gap (fl : Nat) (v0 : Nat) (v1 : Int32) (v2 : Int32) (v3 : Int32) (s : Mem) : Option ((Nat ⊕ Int32) × Mem) :=
  bd (F_X7_requirePitch fl v0 v1 s) fun q1 =>
  xb q1 fun u9 s3 =>
  bd (ldO s3 v0 1 3) fun r7 =>
  bd (F_X1_busyNights fl r7 v1 (-1 : Int32) s3) fun q9 =>
  bd (ldO s3 v0 1 3) fun r11 =>
  bd (F_X1_gapEdges fl r11 q9 s3) fun q13 =>
  bd (F_X7_nightAt fl q13 v2 s3) fun q15 =>
  if q15 < (60 : Int32) then (
    if v3 = 0 then (
      some (.inr (q15 + (1 : Int32)), s3))
    else
    bd (F_X7_nextBusy fl q9 (q15 + (1 : Int32)) s3) fun q19 =>
    some (.inr (q19 - (1 : Int32)), s3))
  else
  some (.inl 6, s3)
def F_X7_account (fl : Nat) (v0 : Nat) (v1 : Int32) (s : Mem) : Option ((Nat ⊕ Int32) × Mem) :=
  if v1 = 0 then (
    bd (ldO s v0 1 3) fun r2 =>
    some (.inr (gI s r2 1), s))
  else
  if v1 = 1 then (
    bd (ldO s v0 1 3) fun r5 =>
    bd (F_X1_countBooked fl r5 s) fun q7 =>
    some (.inr q7, s))
  else
  if v1 = 2 then (
    bd (ldO s v0 1 3) fun r10 =>
    bd (ldO s v0 1 3) fun r12 =>
    bd (F_X1_countBooked fl r12 s) fun q14 =>
    some (.inr ((gI s r10 3) - q14), s))
  else
  if v1 = 3 then (
    bd (ldO s v0 1 3) fun r17 =>
    bd (F_X1_sumPrices fl r17 s) fun q19 =>
    some (.inr q19, s))
  else
  if v1 = 4 then (
    bd (ldO s v0 1 3) fun r22 =>
    bd (F_X1_sumFees fl r22 s) fun q24 =>
    some (.inr q24, s))
  else
  if v1 = 5 then (
    bd (ldO s v0 1 3) fun r27 =>
    bd (F_X1_countAllGaps fl r27 s) fun q29 =>
    some (.inr q29, s))
  else
  if v1 = 6 then (
    bd (ldO s v0 1 3) fun r32 =>
    bd (F_X1_countAllBusyNights fl r32 s) fun q34 =>
    some (.inr q34, s))
  else
  if v1 = 7 then (
    bd (ldO s v0 1 3) fun r37 =>
    some (.inr (gI s r37 5), s))
  else
  some (.inl 1, s)
def F_X7_share (fl : Nat) (v0 : Nat) (s : Mem) : Option ((Nat ⊕ UInt64) × Mem) :=
  bd (ldO s v0 1 3) fun r1 =>
  if 0 < (gI s r1 1) then (
    bd (ldO s v0 1 3) fun r4 =>
    bd (F_X1_countAllBusyNights fl r4 s) fun q6 =>
    bd (ldO s v0 1 3) fun r8 =>
    gd (nNaN (FP.ddiv (FP.i2d q6) (FP.i2d ((60 : Int32) * (gI s r8 1))))) <|
    some (.inr (FP.ddiv (FP.i2d q6) (FP.i2d ((60 : Int32) * (gI s r8 1)))), s))
  else
  some (.inl 4, s)
def F_X7_undo (fl : Nat) (v0 : Nat) (s : Mem) : Option ((Nat ⊕ Int32) × Mem) :=
  bd (ldO s v0 4 4) fun r1 =>
  if 0 < (gI s r1 2) then (
    bd (ldO s v0 4 4) fun r4 =>
    bd (ldO s v0 1 3) fun r6 =>
    bd (F_X2_takeBack fl r4 r6 s) fun q8 =>
    bd (ldO q8 v0 4 4) fun r10 =>
    some (.inr (gI q8 r10 2), q8))
  else
  some (.inl 2, s)
def F_X7_save (fl : Nat) (v0 : Nat) (s : Mem) : Option Mem :=
  bd (ldO s v0 2 3) fun r1 =>
  bd (ldO s v0 1 3) fun r3 =>
  bd (F_X1_copyFrom fl r1 r3 s) fun q5 =>
  some (pI q5 v0 3 (1 : Int32))
def F_X7_restore (fl : Nat) (v0 : Nat) (s : Mem) : Option ((Nat ⊕ Unit) × Mem) :=
  if (gI s v0 3) = 0 then (
    some (.inl 2, s))
  else
  bd (ldO s v0 1 3) fun r2 =>
  bd (ldO s v0 2 3) fun r4 =>
  bd (F_X1_copyFrom fl r2 r4 s) fun q6 =>
  bd (ldO q6 v0 4 4) fun r8 =>
  some (.inr (), (pI q6 r8 2 (0 : Int32)))
def F_X8_thrown (fl : Nat) (v0 : Nat) (s : Mem) : Option Int32 :=
  some (gI s v0 0)
def F_X8_in (fl : Nat) (v0 : Int32) (v1 : Int32) (v2 : Int32) (s : Mem) : Option Int32 :=
  if v0 < v1 then (
    some (0 : Int32))
  else
  if v2 < v0 then (
    some (0 : Int32))
  else
  some (1 : Int32)
def B_X8_copies_2 (fl : Nat) : Nat → Nat → Int32 → Int32 → Int32 → Mem → Option Mem
  | 0 => fun _ _ _ _ _ => none
  | n + 1 => fun v0 v1 v2 v3 s =>
    if (170 : Int32) ≤ v3 then (
      some s)
    else
    bd (ldA s v0 1 0) fun r2 =>
    bd (ldA s v0 1 0) fun r4 =>
    gd (inR (((170 : Int32) * v1) + v3) r4.2) <|
    gd (inR (((170 : Int32) * v2) + v3) r2.2) <|
    B_X8_copies_2 fl n v0 v1 v2 (v3 + (1 : Int32)) (pI s r2.1 (((170 : Int32) * v2) + v3).toNatClampNeg (gI s r4.1 (((170 : Int32) * v1) + v3).toNatClampNeg))
def F_X8_copies (fl : Nat) (v0 : Nat) (v1 : Int32) (v2 : Int32) (s : Mem) : Option Mem :=
  B_X8_copies_2 fl fl v0 v1 v2 (0 : Int32) s
def B_X8_keeps_41 (fl : Nat) (v0 : Nat) (s : Mem) : Option Mem :=
  bd (F_X8_copies fl v0 (0 : Int32) (gI (pI s v0 2 ((gI s v0 2) + (1 : Int32))) v0 2) (pI s v0 2 ((gI s v0 2) + (1 : Int32)))) fun q1 =>
  some q1
def B_X8_keeps_11 (fl : Nat) : Nat → Nat → Int32 → Mem → Option Mem
  | 0 => fun _ _ _ => none
  | n + 1 => fun v0 v1 s =>
    if (8 : Int32) ≤ v1 then (
      B_X8_keeps_41 fl v0 (pI s v0 2 ((gI s v0 2) - (1 : Int32))))
    else
    bd (F_X8_copies fl v0 (v1 + (1 : Int32)) v1 s) fun q4 =>
    B_X8_keeps_11 fl n v0 (v1 + (1 : Int32)) q4
def F_X8_keeps (fl : Nat) (v0 : Nat) (s : Mem) : Option Mem :=
  if (gI s v0 2) = (8 : Int32) then (
    B_X8_keeps_11 fl fl v0 (1 : Int32) s)
  else
  B_X8_keeps_41 fl v0 s
def F_X8_isPitch (fl : Nat) (v0 : Nat) (v1 : Int32) (s : Mem) : Option Int32 :=
  bd (ldA s v0 1 0) fun r1 =>
  gd (inR (0 : Int32) r1.2) <|
  bd (F_X8_in fl v1 (0 : Int32) ((gI s r1.1 (0 : Int32).toNatClampNeg) - (1 : Int32)) s) fun q4 =>
  gd (q4 = 0 ∨ q4 = 1) <|
  some q4
def F_X8_isParty (fl : Nat) (v0 : Nat) (v1 : Int32) (s : Mem) : Option Int32 :=
  bd (ldA s v0 1 0) fun r1 =>
  gd (inR (1 : Int32) r1.2) <|
  bd (F_X8_in fl v1 (0 : Int32) ((gI s r1.1 (1 : Int32).toNatClampNeg) - (1 : Int32)) s) fun q4 =>
  gd (q4 = 0 ∨ q4 = 1) <|
  some q4
def F_X8_isNight (fl : Nat) (v0 : Int32) (s : Mem) : Option Int32 :=
  bd (F_X8_in fl v0 (0 : Int32) (59 : Int32) s) fun q1 =>
  gd (q1 = 0 ∨ q1 = 1) <|
  some q1
def F_X8_isCircuit (fl : Nat) (v0 : Int32) (s : Mem) : Option Int32 :=
  bd (F_X8_in fl v0 (0 : Int32) (2 : Int32) s) fun q1 =>
  gd (q1 = 0 ∨ q1 = 1) <|
  some q1
def F_X8_ofPitch (fl : Nat) (v0 : Nat) (v1 : Int32) (v2 : Int32) (s : Mem) : Option Int32 :=
  bd (ldA s v0 1 0) fun r1 =>
  gd (inR (((8 : Int32) + ((5 : Int32) * v1)) + v2) r1.2) <|
  some (gI s r1.1 (((8 : Int32) + ((5 : Int32) * v1)) + v2).toNatClampNeg)
def F_X8_of (fl : Nat) (v0 : Nat) (v1 : Int32) (v2 : Int32) (s : Mem) : Option Int32 :=
  bd (ldA s v0 1 0) fun r1 =>
  gd (inR (((50 : Int32) + ((10 : Int32) * v1)) + v2) r1.2) <|
  some (gI s r1.1 (((50 : Int32) + ((10 : Int32) * v1)) + v2).toNatClampNeg)
def F_X8_lays (fl : Nat) (v0 : Nat) (v1 : Int32) (v2 : Int32) (v3 : Int32) (s : Mem) : Option Mem :=
  bd (ldA s v0 1 0) fun r1 =>
  gd (inR (((50 : Int32) + ((10 : Int32) * v1)) + v2) r1.2) <|
  some (pI s r1.1 (((50 : Int32) + ((10 : Int32) * v1)) + v2).toNatClampNeg v3)
def B_X8_addPitch_60 (fl : Nat) (v0 : Nat) (v1 : Int32) (v2 : Int32) (v3 : Int32) (v4 : Int32) (w0 : Nat) (w1 : Int32) (s : Mem) : Option (Int32 × Mem) :=
  if (gI (pI s w0 0 w1) v0 0) = 0 then (
    bd (F_X8_keeps fl v0 (pI s w0 0 w1)) fun q2 =>
    bd (ldA q2 v0 1 0) fun r4 =>
    gd (inR (0 : Int32) r4.2) <|
    bd (ldA q2 v0 1 0) fun r7 =>
    gd (inR ((8 : Int32) + ((5 : Int32) * (gI q2 r4.1 (0 : Int32).toNatClampNeg))) r7.2) <|
    bd (ldA (pI q2 r7.1 ((8 : Int32) + ((5 : Int32) * (gI q2 r4.1 (0 : Int32).toNatClampNeg))).toNatClampNeg v1) v0 1 0) fun r10 =>
    gd (inR (((8 : Int32) + ((5 : Int32) * (gI q2 r4.1 (0 : Int32).toNatClampNeg))) + (1 : Int32)) r10.2) <|
    bd (ldA (pI (pI q2 r7.1 ((8 : Int32) + ((5 : Int32) * (gI q2 r4.1 (0 : Int32).toNatClampNeg))).toNatClampNeg v1) r10.1 (((8 : Int32) + ((5 : Int32) * (gI q2 r4.1 (0 : Int32).toNatClampNeg))) + (1 : Int32)).toNatClampNeg v2) v0 1 0) fun r13 =>
    gd (inR (((8 : Int32) + ((5 : Int32) * (gI q2 r4.1 (0 : Int32).toNatClampNeg))) + (2 : Int32)) r13.2) <|
    bd (ldA (pI (pI (pI q2 r7.1 ((8 : Int32) + ((5 : Int32) * (gI q2 r4.1 (0 : Int32).toNatClampNeg))).toNatClampNeg v1) r10.1 (((8 : Int32) + ((5 : Int32) * (gI q2 r4.1 (0 : Int32).toNatClampNeg))) + (1 : Int32)).toNatClampNeg v2) r13.1 (((8 : Int32) + ((5 : Int32) * (gI q2 r4.1 (0 : Int32).toNatClampNeg))) + (2 : Int32)).toNatClampNeg v3) v0 1 0) fun r16 =>
    gd (inR (((8 : Int32) + ((5 : Int32) * (gI q2 r4.1 (0 : Int32).toNatClampNeg))) + (3 : Int32)) r16.2) <|
    bd (ldA (pI (pI (pI (pI q2 r7.1 ((8 : Int32) + ((5 : Int32) * (gI q2 r4.1 (0 : Int32).toNatClampNeg))).toNatClampNeg v1) r10.1 (((8 : Int32) + ((5 : Int32) * (gI q2 r4.1 (0 : Int32).toNatClampNeg))) + (1 : Int32)).toNatClampNeg v2) r13.1 (((8 : Int32) + ((5 : Int32) * (gI q2 r4.1 (0 : Int32).toNatClampNeg))) + (2 : Int32)).toNatClampNeg v3) r16.1 (((8 : Int32) + ((5 : Int32) * (gI q2 r4.1 (0 : Int32).toNatClampNeg))) + (3 : Int32)).toNatClampNeg v4) v0 1 0) fun r19 =>
    gd (inR (((8 : Int32) + ((5 : Int32) * (gI q2 r4.1 (0 : Int32).toNatClampNeg))) + (4 : Int32)) r19.2) <|
    bd (ldA (pI (pI (pI (pI (pI q2 r7.1 ((8 : Int32) + ((5 : Int32) * (gI q2 r4.1 (0 : Int32).toNatClampNeg))).toNatClampNeg v1) r10.1 (((8 : Int32) + ((5 : Int32) * (gI q2 r4.1 (0 : Int32).toNatClampNeg))) + (1 : Int32)).toNatClampNeg v2) r13.1 (((8 : Int32) + ((5 : Int32) * (gI q2 r4.1 (0 : Int32).toNatClampNeg))) + (2 : Int32)).toNatClampNeg v3) r16.1 (((8 : Int32) + ((5 : Int32) * (gI q2 r4.1 (0 : Int32).toNatClampNeg))) + (3 : Int32)).toNatClampNeg v4) r19.1 (((8 : Int32) + ((5 : Int32) * (gI q2 r4.1 (0 : Int32).toNatClampNeg))) + (4 : Int32)).toNatClampNeg (10 : Int32)) v0 1 0) fun r22 =>
    gd (inR (0 : Int32) r22.2) <|
    gd (inR (0 : Int32) r22.2) <|
    bd (ldA (pI (pI (pI (pI (pI (pI q2 r7.1 ((8 : Int32) + ((5 : Int32) * (gI q2 r4.1 (0 : Int32).toNatClampNeg))).toNatClampNeg v1) r10.1 (((8 : Int32) + ((5 : Int32) * (gI q2 r4.1 (0 : Int32).toNatClampNeg))) + (1 : Int32)).toNatClampNeg v2) r13.1 (((8 : Int32) + ((5 : Int32) * (gI q2 r4.1 (0 : Int32).toNatClampNeg))) + (2 : Int32)).toNatClampNeg v3) r16.1 (((8 : Int32) + ((5 : Int32) * (gI q2 r4.1 (0 : Int32).toNatClampNeg))) + (3 : Int32)).toNatClampNeg v4) r19.1 (((8 : Int32) + ((5 : Int32) * (gI q2 r4.1 (0 : Int32).toNatClampNeg))) + (4 : Int32)).toNatClampNeg (10 : Int32)) r22.1 (0 : Int32).toNatClampNeg ((gI (pI (pI (pI (pI (pI q2 r7.1 ((8 : Int32) + ((5 : Int32) * (gI q2 r4.1 (0 : Int32).toNatClampNeg))).toNatClampNeg v1) r10.1 (((8 : Int32) + ((5 : Int32) * (gI q2 r4.1 (0 : Int32).toNatClampNeg))) + (1 : Int32)).toNatClampNeg v2) r13.1 (((8 : Int32) + ((5 : Int32) * (gI q2 r4.1 (0 : Int32).toNatClampNeg))) + (2 : Int32)).toNatClampNeg v3) r16.1 (((8 : Int32) + ((5 : Int32) * (gI q2 r4.1 (0 : Int32).toNatClampNeg))) + (3 : Int32)).toNatClampNeg v4) r19.1 (((8 : Int32) + ((5 : Int32) * (gI q2 r4.1 (0 : Int32).toNatClampNeg))) + (4 : Int32)).toNatClampNeg (10 : Int32)) r22.1 (0 : Int32).toNatClampNeg) + (1 : Int32))) v0 1 0) fun r26 =>
    gd (inR (0 : Int32) r26.2) <|
    some (((gI (pI (pI (pI (pI (pI (pI q2 r7.1 ((8 : Int32) + ((5 : Int32) * (gI q2 r4.1 (0 : Int32).toNatClampNeg))).toNatClampNeg v1) r10.1 (((8 : Int32) + ((5 : Int32) * (gI q2 r4.1 (0 : Int32).toNatClampNeg))) + (1 : Int32)).toNatClampNeg v2) r13.1 (((8 : Int32) + ((5 : Int32) * (gI q2 r4.1 (0 : Int32).toNatClampNeg))) + (2 : Int32)).toNatClampNeg v3) r16.1 (((8 : Int32) + ((5 : Int32) * (gI q2 r4.1 (0 : Int32).toNatClampNeg))) + (3 : Int32)).toNatClampNeg v4) r19.1 (((8 : Int32) + ((5 : Int32) * (gI q2 r4.1 (0 : Int32).toNatClampNeg))) + (4 : Int32)).toNatClampNeg (10 : Int32)) r22.1 (0 : Int32).toNatClampNeg ((gI (pI (pI (pI (pI (pI q2 r7.1 ((8 : Int32) + ((5 : Int32) * (gI q2 r4.1 (0 : Int32).toNatClampNeg))).toNatClampNeg v1) r10.1 (((8 : Int32) + ((5 : Int32) * (gI q2 r4.1 (0 : Int32).toNatClampNeg))) + (1 : Int32)).toNatClampNeg v2) r13.1 (((8 : Int32) + ((5 : Int32) * (gI q2 r4.1 (0 : Int32).toNatClampNeg))) + (2 : Int32)).toNatClampNeg v3) r16.1 (((8 : Int32) + ((5 : Int32) * (gI q2 r4.1 (0 : Int32).toNatClampNeg))) + (3 : Int32)).toNatClampNeg v4) r19.1 (((8 : Int32) + ((5 : Int32) * (gI q2 r4.1 (0 : Int32).toNatClampNeg))) + (4 : Int32)).toNatClampNeg (10 : Int32)) r22.1 (0 : Int32).toNatClampNeg) + (1 : Int32))) r26.1 (0 : Int32).toNatClampNeg) - (1 : Int32)), (pI (pI (pI (pI (pI (pI q2 r7.1 ((8 : Int32) + ((5 : Int32) * (gI q2 r4.1 (0 : Int32).toNatClampNeg))).toNatClampNeg v1) r10.1 (((8 : Int32) + ((5 : Int32) * (gI q2 r4.1 (0 : Int32).toNatClampNeg))) + (1 : Int32)).toNatClampNeg v2) r13.1 (((8 : Int32) + ((5 : Int32) * (gI q2 r4.1 (0 : Int32).toNatClampNeg))) + (2 : Int32)).toNatClampNeg v3) r16.1 (((8 : Int32) + ((5 : Int32) * (gI q2 r4.1 (0 : Int32).toNatClampNeg))) + (3 : Int32)).toNatClampNeg v4) r19.1 (((8 : Int32) + ((5 : Int32) * (gI q2 r4.1 (0 : Int32).toNatClampNeg))) + (4 : Int32)).toNatClampNeg (10 : Int32)) r22.1 (0 : Int32).toNatClampNeg ((gI (pI (pI (pI (pI (pI q2 r7.1 ((8 : Int32) + ((5 : Int32) * (gI q2 r4.1 (0 : Int32).toNatClampNeg))).toNatClampNeg v1) r10.1 (((8 : Int32) + ((5 : Int32) * (gI q2 r4.1 (0 : Int32).toNatClampNeg))) + (1 : Int32)).toNatClampNeg v2) r13.1 (((8 : Int32) + ((5 : Int32) * (gI q2 r4.1 (0 : Int32).toNatClampNeg))) + (2 : Int32)).toNatClampNeg v3) r16.1 (((8 : Int32) + ((5 : Int32) * (gI q2 r4.1 (0 : Int32).toNatClampNeg))) + (3 : Int32)).toNatClampNeg v4) r19.1 (((8 : Int32) + ((5 : Int32) * (gI q2 r4.1 (0 : Int32).toNatClampNeg))) + (4 : Int32)).toNatClampNeg (10 : Int32)) r22.1 (0 : Int32).toNatClampNeg) + (1 : Int32)))))
  else
  some ((0 : Int32), (pI s w0 0 w1))
def B_X8_addPitch_40 (fl : Nat) (v0 : Nat) (v1 : Int32) (v2 : Int32) (v3 : Int32) (v4 : Int32) (w0 : Nat) (s : Mem) : Option (Int32 × Mem) :=
  B_X8_addPitch_60 fl v0 v1 v2 v3 v4 w0 (1 : Int32) s
def F_X8_addPitch (fl : Nat) (v0 : Nat) (v1 : Int32) (v2 : Int32) (v3 : Int32) (v4 : Int32) (s : Mem) : Option (Int32 × Mem) :=
  bd (F_X8_in fl v1 (0 : Int32) (2 : Int32) s) fun q29 =>
  if q29 = 0 then (
    B_X8_addPitch_40 fl v0 v1 v2 v3 v4 v0 s)
  else
  bd (F_X8_in fl v2 (2 : Int32) (12 : Int32) s) fun q32 =>
  if q32 = 0 then (
    B_X8_addPitch_40 fl v0 v1 v2 v3 v4 v0 s)
  else
  bd (F_X8_in fl v3 (2 : Int32) (12 : Int32) s) fun q35 =>
  if q35 = 0 then (
    B_X8_addPitch_40 fl v0 v1 v2 v3 v4 v0 s)
  else
  bd (F_X8_in fl v4 (-1 : Int32) (2 : Int32) s) fun q38 =>
  if q38 = 0 then (
    B_X8_addPitch_40 fl v0 v1 v2 v3 v4 v0 s)
  else
  bd (ldA s v0 1 0) fun r41 =>
  gd (inR (0 : Int32) r41.2) <|
  if (gI s r41.1 (0 : Int32).toNatClampNeg) = (6 : Int32) then (
    B_X8_addPitch_60 fl v0 v1 v2 v3 v4 v0 (2 : Int32) s)
  else
  B_X8_addPitch_60 fl v0 v1 v2 v3 v4 v0 (0 : Int32) s
def B_X8_loads_118 (k2 : Nat → Int32 → Int32 → Mem → Option Mem) (fl : Nat) (v0 : Nat) (v1 : Int32) (v2 : Int32) (w0 : Nat) (w1 : Int32) (w2 : Int32) (s : Mem) : Option Mem :=
  bd (aLen w0 0) fun N1 =>
  gd (inR w1 N1) <|
  k2 v0 v1 (v2 + (1 : Int32)) (pI s w0 w1.toNatClampNeg w2)
def B_X8_loads_98 (k2 : Nat → Int32 → Int32 → Mem → Option Mem) (fl : Nat) (v0 : Nat) (v1 : Int32) (v2 : Int32) (v3 : Int32) (w0 : Nat) (w1 : Int32) (w2 : Int32) (s : Mem) : Option Mem :=
  bd (aLen w0 0) fun N4 =>
  gd (inR w1 N4) <|
  bd (ldA (pI s w0 w1.toNatClampNeg w2) v0 7 0) fun r7 =>
  if v3 = 0 then (
    B_X8_loads_118 k2 fl v0 v1 v2 r7.1 v2 (0 : Int32) (pI s w0 w1.toNatClampNeg w2))
  else
  bd (F_X8_of fl v0 v2 (3 : Int32) (pI s w0 w1.toNatClampNeg w2)) fun q10 =>
  B_X8_loads_118 k2 fl v0 v1 v2 r7.1 v2 q10 (pI s w0 w1.toNatClampNeg w2)
def B_X8_loads_78 (k2 : Nat → Int32 → Int32 → Mem → Option Mem) (fl : Nat) (v0 : Nat) (v1 : Int32) (v2 : Int32) (v3 : Int32) (w0 : Nat) (w1 : Int32) (w2 : Int32) (s : Mem) : Option Mem :=
  bd (aLen w0 0) fun N12 =>
  gd (inR w1 N12) <|
  bd (ldA (pI s w0 w1.toNatClampNeg w2) v0 6 0) fun r15 =>
  if v3 = 0 then (
    B_X8_loads_98 k2 fl v0 v1 v2 v3 r15.1 v2 (0 : Int32) (pI s w0 w1.toNatClampNeg w2))
  else
  bd (F_X8_of fl v0 v2 (5 : Int32) (pI s w0 w1.toNatClampNeg w2)) fun q18 =>
  B_X8_loads_98 k2 fl v0 v1 v2 v3 r15.1 v2 q18 (pI s w0 w1.toNatClampNeg w2)
def B_X8_loads_58 (k2 : Nat → Int32 → Int32 → Mem → Option Mem) (fl : Nat) (v0 : Nat) (v1 : Int32) (v2 : Int32) (v3 : Int32) (w0 : Nat) (w1 : Int32) (w2 : Int32) (s : Mem) : Option Mem :=
  bd (aLen w0 0) fun N20 =>
  gd (inR w1 N20) <|
  bd (ldA (pI s w0 w1.toNatClampNeg w2) v0 5 0) fun r23 =>
  if v3 = 0 then (
    B_X8_loads_78 k2 fl v0 v1 v2 v3 r23.1 v2 (0 : Int32) (pI s w0 w1.toNatClampNeg w2))
  else
  bd (F_X8_of fl v0 v2 (4 : Int32) (pI s w0 w1.toNatClampNeg w2)) fun q26 =>
  B_X8_loads_78 k2 fl v0 v1 v2 v3 r23.1 v2 q26 (pI s w0 w1.toNatClampNeg w2)
def B_X8_loads_37 (k2 : Nat → Int32 → Int32 → Mem → Option Mem) (fl : Nat) (v0 : Nat) (v1 : Int32) (v2 : Int32) (w0 : Int32) (s : Mem) : Option Mem :=
  bd (ldA s v0 4 0) fun r28 =>
  if w0 = 0 then (
    B_X8_loads_58 k2 fl v0 v1 v2 w0 r28.1 v2 (-1 : Int32) s)
  else
  bd (F_X8_of fl v0 v2 (6 : Int32) s) fun q31 =>
  B_X8_loads_58 k2 fl v0 v1 v2 w0 r28.1 v2 q31 s
def B_X8_loads_36 (k2 : Nat → Int32 → Int32 → Mem → Option Mem) (fl : Nat) (v0 : Nat) (v1 : Int32) (v2 : Int32) (s : Mem) : Option Mem :=
  B_X8_loads_37 k2 fl v0 v1 v2 (0 : Int32) s
def B_X8_loads_2 (fl : Nat) : Nat → Nat → Int32 → Int32 → Mem → Option Mem
  | 0 => fun _ _ _ _ => none
  | n + 1 => fun v0 v1 v2 s =>
    if (12 : Int32) < v2 then (
      some s)
    else
    bd (F_X8_isParty fl v0 v2 s) fun q34 =>
    if q34 = 0 then (
      B_X8_loads_36 (B_X8_loads_2 fl n) fl v0 v1 v2 s)
    else
    bd (F_X8_of fl v0 v2 (8 : Int32) s) fun q37 =>
    if q37 = (1 : Int32) then (
      if v2 = v1 then (
        B_X8_loads_36 (B_X8_loads_2 fl n) fl v0 v1 v2 s)
      else
      B_X8_loads_37 (B_X8_loads_2 fl n) fl v0 v1 v2 (1 : Int32) s)
    else
    B_X8_loads_36 (B_X8_loads_2 fl n) fl v0 v1 v2 s
def F_X8_loads (fl : Nat) (v0 : Nat) (v1 : Int32) (s : Mem) : Option Mem :=
  B_X8_loads_2 fl fl v0 v1 (0 : Int32) s
def F_X8_mask (fl : Nat) (v0 : Int32) (v1 : Int32) (s : Mem) : Option Int64 :=
  some ((((1 : Int64) <<< (Int32.toInt64 v1 &&& 63)) - (1 : Int64)) <<< (Int32.toInt64 v0 &&& 63))
def B_X8_maskOf__51 (k5 : Nat → Int32 → Int32 → Int64 → Int32 → Option Int64) (fl : Nat) (s : Mem) (v0 : Nat) (v1 : Int32) (v2 : Int32) (v5 : Int32) (w0 : Int64) (w1 : Int64) : Option Int64 :=
  k5 v0 v1 v2 (w0 ||| w1) (v5 + (1 : Int32))
def B_X8_maskOf__50 (k5 : Nat → Int32 → Int32 → Int64 → Int32 → Option Int64) (fl : Nat) (s : Mem) (v0 : Nat) (v1 : Int32) (v2 : Int32) (v5 : Int32) (w0 : Int64) : Option Int64 :=
  B_X8_maskOf__51 k5 fl s v0 v1 v2 v5 w0 (0 : Int64)
def B_X8_maskOf__5 (fl : Nat) (s : Mem) : Nat → Nat → Int32 → Int32 → Int64 → Int32 → Option Int64
  | 0 => fun _ _ _ _ _ => none
  | n + 1 => fun v0 v1 v2 v3 v5 =>
    if (12 : Int32) < v5 then (
      some v3)
    else
    bd (ldA s v0 4 0) fun r2 =>
    gd (inR v5 r2.2) <|
    if (gI s r2.1 v5.toNatClampNeg) = v1 then (
      if v5 = v2 then (
        B_X8_maskOf__50 (B_X8_maskOf__5 fl s n) fl s v0 v1 v2 v5 v3)
      else
      bd (ldA s v0 5 0) fun r7 =>
      gd (inR v5 r7.2) <|
      bd (ldA s v0 6 0) fun r10 =>
      gd (inR v5 r10.2) <|
      bd (F_X8_mask fl (gI s r7.1 v5.toNatClampNeg) (gI s r10.1 v5.toNatClampNeg) s) fun q13 =>
      B_X8_maskOf__51 (B_X8_maskOf__5 fl s n) fl s v0 v1 v2 v5 v3 q13)
    else
    B_X8_maskOf__50 (B_X8_maskOf__5 fl s n) fl s v0 v1 v2 v5 v3
def F_X8_maskOf_ (fl : Nat) (v0 : Nat) (v1 : Int32) (v2 : Int32) (s : Mem) : Option Int64 :=
  B_X8_maskOf__5 fl s fl v0 v1 v2 (0 : Int64) (0 : Int32)
def F_X8_maskOf (fl : Nat) (v0 : Nat) (v1 : Int32) (s : Mem) : Option Int64 :=
  bd (F_X8_maskOf_ fl v0 v1 (-1 : Int32) s) fun q1 =>
  some q1
def B_X8_bits_4 (fl : Nat) (s : Mem) : Nat → Int64 → Int32 → Int32 → Option Int32
  | 0 => fun _ _ _ => none
  | n + 1 => fun v0 v2 v3 =>
    if (60 : Int32) ≤ v3 then (
      some v2)
    else
    B_X8_bits_4 fl s n v0 (v2 + (Int64.toInt32 ((v0 >>> (Int32.toInt64 v3 &&& 63)) &&& (1 : Int64)))) (v3 + (1 : Int32))
def F_X8_bits (fl : Nat) (v0 : Int64) (s : Mem) : Option Int32 :=
  B_X8_bits_4 fl s fl v0 (0 : Int32) (0 : Int32)
def B_X8_gaps_104 (k9 : Nat → Int64 → Int32 → Int32 → Int32 → Int32 → Mem → Option (Int32 × Mem)) (fl : Nat) (v0 : Nat) (v1 : Int64) (v3 : Int32) (v4 : Int32) (v5 : Int32) (v6 : Int32) (s : Mem) : Option (Int32 × Mem) :=
  k9 v0 v1 v3 v4 v5 (v6 + (1 : Int32)) s
def B_X8_gaps_100 (k9 : Nat → Int64 → Int32 → Int32 → Int32 → Int32 → Mem → Option (Int32 × Mem)) (fl : Nat) (v0 : Nat) (v1 : Int64) (v3 : Int32) (v4 : Int32) (v6 : Int32) (s : Mem) : Option (Int32 × Mem) :=
  B_X8_gaps_104 k9 fl v0 v1 v3 v4 v6 v6 s
def B_X8_gaps_94 (k9 : Nat → Int64 → Int32 → Int32 → Int32 → Int32 → Mem → Option (Int32 × Mem)) (fl : Nat) (v0 : Nat) (v1 : Int64) (v3 : Int32) (v4 : Int32) (v6 : Int32) (w0 : Nat) (w1 : Int32) (s : Mem) : Option (Int32 × Mem) :=
  B_X8_gaps_100 k9 fl v0 v1 v3 (v4 + (1 : Int32)) v6 (pI s w0 9 w1)
def B_X8_gaps_73 (k9 : Nat → Int64 → Int32 → Int32 → Int32 → Int32 → Mem → Option (Int32 × Mem)) (fl : Nat) (v0 : Nat) (v1 : Int64) (v3 : Int32) (v4 : Int32) (v6 : Int32) (w0 : Nat) (w1 : Int32) (s : Mem) : Option (Int32 × Mem) :=
  if v4 = v3 then (
    B_X8_gaps_94 k9 fl v0 v1 v3 v4 v6 v0 (v6 - (1 : Int32)) (pI s w0 8 w1))
  else
  B_X8_gaps_94 k9 fl v0 v1 v3 v4 v6 v0 (gI (pI s w0 8 w1) v0 9) (pI s w0 8 w1)
def B_X8_gaps_9 (fl : Nat) : Nat → Nat → Int64 → Int32 → Int32 → Int32 → Int32 → Mem → Option (Int32 × Mem)
  | 0 => fun _ _ _ _ _ _ _ => none
  | n + 1 => fun v0 v1 v3 v4 v5 v6 s =>
    if (60 : Int32) ≤ v6 then (
      some (v4, s))
    else
    if (lg_cmp ((v1 >>> (Int32.toInt64 v6 &&& 63)) &&& (1 : Int64)) (0 : Int64)) = 0 then (
      B_X8_gaps_104 (B_X8_gaps_9 fl n) fl v0 v1 v3 v4 v5 v6 s)
    else
    if v5 < 0 then (
      B_X8_gaps_100 (B_X8_gaps_9 fl n) fl v0 v1 v3 v4 v6 s)
    else
    bd (ldA s v0 1 0) fun r5 =>
    gd (inR (4 : Int32) r5.2) <|
    bd (F_X8_in fl ((v6 - v5) - (1 : Int32)) (1 : Int32) (gI s r5.1 (4 : Int32).toNatClampNeg) s) fun q8 =>
    if q8 = 0 then (
      B_X8_gaps_100 (B_X8_gaps_9 fl n) fl v0 v1 v3 v4 v6 s)
    else
    if v4 = v3 then (
      B_X8_gaps_73 (B_X8_gaps_9 fl n) fl v0 v1 v3 v4 v6 v0 (v5 + (1 : Int32)) s)
    else
    B_X8_gaps_73 (B_X8_gaps_9 fl n) fl v0 v1 v3 v4 v6 v0 (gI s v0 8) s
def F_X8_gaps (fl : Nat) (v0 : Nat) (v1 : Int64) (v3 : Int32) (s : Mem) : Option (Int32 × Mem) :=
  B_X8_gaps_9 fl fl v0 v1 v3 (0 : Int32) (-1 : Int32) (0 : Int32) s
def F_X8_gapsOf (fl : Nat) (v0 : Nat) (v1 : Int64) (s : Mem) : Option (Int32 × Mem) :=
  bd (F_X8_gaps fl v0 v1 (-1 : Int32) s) fun q1 =>
  some (q1.1, q1.2)
def B_X8_pitch_28 (fl : Nat) (v0 : Nat) (v1 : Int32) (v2 : Int32) (w0 : Nat) (w1 : Int32) (s : Mem) : Option (Int32 × Mem) :=
  if (gI (pI s w0 0 w1) v0 0) = 0 then (
    if (5 : Int32) ≤ v2 then (
      bd (F_X8_loads fl v0 (-1 : Int32) (pI s w0 0 w1)) fun q3 =>
      if v2 = (5 : Int32) then (
        bd (F_X8_maskOf fl v0 v1 q3) fun q10 =>
        bd (F_X8_bits fl q10 q3) fun q12 =>
        some (q12, q3))
      else
      bd (F_X8_maskOf fl v0 v1 q3) fun q6 =>
      bd (F_X8_gapsOf fl v0 q6 q3) fun q8 =>
      some (q8.1, q8.2))
    else
    bd (F_X8_ofPitch fl v0 v1 v2 (pI s w0 0 w1)) fun q14 =>
    some (q14, (pI s w0 0 w1)))
  else
  some ((0 : Int32), (pI s w0 0 w1))
def F_X8_pitch (fl : Nat) (v0 : Nat) (v1 : Int32) (v2 : Int32) (s : Mem) : Option (Int32 × Mem) :=
  bd (F_X8_isPitch fl v0 v1 s) fun q16 =>
  if q16 = 0 then (
    B_X8_pitch_28 fl v0 v1 v2 v0 (1 : Int32) s)
  else
  bd (F_X8_in fl v2 (0 : Int32) (6 : Int32) s) fun q19 =>
  if q19 = 0 then (
    B_X8_pitch_28 fl v0 v1 v2 v0 (2 : Int32) s)
  else
  B_X8_pitch_28 fl v0 v1 v2 v0 (0 : Int32) s
def F_X8_sets (fl : Nat) (v0 : Nat) (v1 : Int32) (v2 : Int32) (s : Mem) : Option (Int32 × Mem) :=
  bd (F_X8_keeps fl v0 s) fun q1 =>
  bd (ldA q1 v0 1 0) fun r3 =>
  gd (inR v1 r3.2) <|
  bd (ldA q1 v0 1 0) fun r6 =>
  gd (inR v1 r6.2) <|
  some ((gI q1 r3.1 v1.toNatClampNeg), (pI q1 r6.1 v1.toNatClampNeg v2))
def B_X8_setLimit_27 (fl : Nat) (v0 : Nat) (v1 : Int32) (v2 : Int32) (w0 : Nat) (w1 : Int32) (s : Mem) : Option (Int32 × Mem) :=
  if (gI (pI s w0 0 w1) v0 0) = 0 then (
    bd (F_X8_sets fl v0 ((5 : Int32) + v1) v2 (pI s w0 0 w1)) fun q2 =>
    some (q2.1, q2.2))
  else
  some ((0 : Int32), (pI s w0 0 w1))
def F_X8_setLimit (fl : Nat) (v0 : Nat) (v1 : Int32) (v2 : Int32) (s : Mem) : Option (Int32 × Mem) :=
  bd (F_X8_isCircuit fl v1 s) fun q4 =>
  if q4 = 0 then (
    B_X8_setLimit_27 fl v0 v1 v2 v0 (1 : Int32) s)
  else
  bd (F_X8_in fl v2 (0 : Int32) (40 : Int32) s) fun q7 =>
  if q7 = 0 then (
    B_X8_setLimit_27 fl v0 v1 v2 v0 (2 : Int32) s)
  else
  B_X8_setLimit_27 fl v0 v1 v2 v0 (0 : Int32) s
def B_X8_setRate_28 (fl : Nat) (v0 : Nat) (v1 : Int32) (v2 : Int32) (w0 : Nat) (w1 : Int32) (s : Mem) : Option (Int32 × Mem) :=
  if (gI (pI s w0 0 w1) v0 0) = 0 then (
    bd (F_X8_sets fl v0 (((8 : Int32) + ((5 : Int32) * v1)) + (4 : Int32)) v2 (pI s w0 0 w1)) fun q2 =>
    some (q2.1, q2.2))
  else
  some ((0 : Int32), (pI s w0 0 w1))
def F_X8_setRate (fl : Nat) (v0 : Nat) (v1 : Int32) (v2 : Int32) (s : Mem) : Option (Int32 × Mem) :=
  bd (F_X8_isPitch fl v0 v1 s) fun q4 =>
  if q4 = 0 then (
    B_X8_setRate_28 fl v0 v1 v2 v0 (1 : Int32) s)
  else
  bd (F_X8_in fl v2 (1 : Int32) (99 : Int32) s) fun q7 =>
  if q7 = 0 then (
    B_X8_setRate_28 fl v0 v1 v2 v0 (2 : Int32) s)
  else
  B_X8_setRate_28 fl v0 v1 v2 v0 (0 : Int32) s
def B_X8_setGap_15 (fl : Nat) (v0 : Nat) (v1 : Int32) (w0 : Nat) (w1 : Int32) (s : Mem) : Option (Int32 × Mem) :=
  if (gI (pI s w0 0 w1) v0 0) = 0 then (
    bd (F_X8_sets fl v0 (4 : Int32) v1 (pI s w0 0 w1)) fun q2 =>
    some (q2.1, q2.2))
  else
  some ((0 : Int32), (pI s w0 0 w1))
def F_X8_setGap (fl : Nat) (v0 : Nat) (v1 : Int32) (s : Mem) : Option (Int32 × Mem) :=
  bd (F_X8_in fl v1 (0 : Int32) (5 : Int32) s) fun q4 =>
  if q4 = 0 then (
    B_X8_setGap_15 fl v0 v1 v0 (1 : Int32) s)
  else
  B_X8_setGap_15 fl v0 v1 v0 (0 : Int32) s
def B_X8_addSeason_47 (fl : Nat) (v0 : Nat) (v1 : Int32) (v2 : Int32) (v3 : Int32) (w0 : Nat) (w1 : Int32) (s : Mem) : Option (Int32 × Mem) :=
  if (gI (pI s w0 0 w1) v0 0) = 0 then (
    bd (F_X8_keeps fl v0 (pI s w0 0 w1)) fun q2 =>
    bd (ldA q2 v0 1 0) fun r4 =>
    gd (inR (2 : Int32) r4.2) <|
    bd (ldA q2 v0 1 0) fun r7 =>
    gd (inR ((38 : Int32) + ((3 : Int32) * (gI q2 r4.1 (2 : Int32).toNatClampNeg))) r7.2) <|
    bd (ldA (pI q2 r7.1 ((38 : Int32) + ((3 : Int32) * (gI q2 r4.1 (2 : Int32).toNatClampNeg))).toNatClampNeg v1) v0 1 0) fun r10 =>
    gd (inR (((38 : Int32) + ((3 : Int32) * (gI q2 r4.1 (2 : Int32).toNatClampNeg))) + (1 : Int32)) r10.2) <|
    bd (ldA (pI (pI q2 r7.1 ((38 : Int32) + ((3 : Int32) * (gI q2 r4.1 (2 : Int32).toNatClampNeg))).toNatClampNeg v1) r10.1 (((38 : Int32) + ((3 : Int32) * (gI q2 r4.1 (2 : Int32).toNatClampNeg))) + (1 : Int32)).toNatClampNeg v2) v0 1 0) fun r13 =>
    gd (inR (((38 : Int32) + ((3 : Int32) * (gI q2 r4.1 (2 : Int32).toNatClampNeg))) + (2 : Int32)) r13.2) <|
    bd (ldA (pI (pI (pI q2 r7.1 ((38 : Int32) + ((3 : Int32) * (gI q2 r4.1 (2 : Int32).toNatClampNeg))).toNatClampNeg v1) r10.1 (((38 : Int32) + ((3 : Int32) * (gI q2 r4.1 (2 : Int32).toNatClampNeg))) + (1 : Int32)).toNatClampNeg v2) r13.1 (((38 : Int32) + ((3 : Int32) * (gI q2 r4.1 (2 : Int32).toNatClampNeg))) + (2 : Int32)).toNatClampNeg v3) v0 1 0) fun r16 =>
    gd (inR (2 : Int32) r16.2) <|
    gd (inR (2 : Int32) r16.2) <|
    bd (ldA (pI (pI (pI (pI q2 r7.1 ((38 : Int32) + ((3 : Int32) * (gI q2 r4.1 (2 : Int32).toNatClampNeg))).toNatClampNeg v1) r10.1 (((38 : Int32) + ((3 : Int32) * (gI q2 r4.1 (2 : Int32).toNatClampNeg))) + (1 : Int32)).toNatClampNeg v2) r13.1 (((38 : Int32) + ((3 : Int32) * (gI q2 r4.1 (2 : Int32).toNatClampNeg))) + (2 : Int32)).toNatClampNeg v3) r16.1 (2 : Int32).toNatClampNeg ((gI (pI (pI (pI q2 r7.1 ((38 : Int32) + ((3 : Int32) * (gI q2 r4.1 (2 : Int32).toNatClampNeg))).toNatClampNeg v1) r10.1 (((38 : Int32) + ((3 : Int32) * (gI q2 r4.1 (2 : Int32).toNatClampNeg))) + (1 : Int32)).toNatClampNeg v2) r13.1 (((38 : Int32) + ((3 : Int32) * (gI q2 r4.1 (2 : Int32).toNatClampNeg))) + (2 : Int32)).toNatClampNeg v3) r16.1 (2 : Int32).toNatClampNeg) + (1 : Int32))) v0 1 0) fun r20 =>
    gd (inR (2 : Int32) r20.2) <|
    some (((gI (pI (pI (pI (pI q2 r7.1 ((38 : Int32) + ((3 : Int32) * (gI q2 r4.1 (2 : Int32).toNatClampNeg))).toNatClampNeg v1) r10.1 (((38 : Int32) + ((3 : Int32) * (gI q2 r4.1 (2 : Int32).toNatClampNeg))) + (1 : Int32)).toNatClampNeg v2) r13.1 (((38 : Int32) + ((3 : Int32) * (gI q2 r4.1 (2 : Int32).toNatClampNeg))) + (2 : Int32)).toNatClampNeg v3) r16.1 (2 : Int32).toNatClampNeg ((gI (pI (pI (pI q2 r7.1 ((38 : Int32) + ((3 : Int32) * (gI q2 r4.1 (2 : Int32).toNatClampNeg))).toNatClampNeg v1) r10.1 (((38 : Int32) + ((3 : Int32) * (gI q2 r4.1 (2 : Int32).toNatClampNeg))) + (1 : Int32)).toNatClampNeg v2) r13.1 (((38 : Int32) + ((3 : Int32) * (gI q2 r4.1 (2 : Int32).toNatClampNeg))) + (2 : Int32)).toNatClampNeg v3) r16.1 (2 : Int32).toNatClampNeg) + (1 : Int32))) r20.1 (2 : Int32).toNatClampNeg) - (1 : Int32)), (pI (pI (pI (pI q2 r7.1 ((38 : Int32) + ((3 : Int32) * (gI q2 r4.1 (2 : Int32).toNatClampNeg))).toNatClampNeg v1) r10.1 (((38 : Int32) + ((3 : Int32) * (gI q2 r4.1 (2 : Int32).toNatClampNeg))) + (1 : Int32)).toNatClampNeg v2) r13.1 (((38 : Int32) + ((3 : Int32) * (gI q2 r4.1 (2 : Int32).toNatClampNeg))) + (2 : Int32)).toNatClampNeg v3) r16.1 (2 : Int32).toNatClampNeg ((gI (pI (pI (pI q2 r7.1 ((38 : Int32) + ((3 : Int32) * (gI q2 r4.1 (2 : Int32).toNatClampNeg))).toNatClampNeg v1) r10.1 (((38 : Int32) + ((3 : Int32) * (gI q2 r4.1 (2 : Int32).toNatClampNeg))) + (1 : Int32)).toNatClampNeg v2) r13.1 (((38 : Int32) + ((3 : Int32) * (gI q2 r4.1 (2 : Int32).toNatClampNeg))) + (2 : Int32)).toNatClampNeg v3) r16.1 (2 : Int32).toNatClampNeg) + (1 : Int32)))))
  else
  some ((0 : Int32), (pI s w0 0 w1))
def B_X8_addSeason_28 (fl : Nat) (v0 : Nat) (v1 : Int32) (v2 : Int32) (v3 : Int32) (w0 : Nat) (s : Mem) : Option (Int32 × Mem) :=
  B_X8_addSeason_47 fl v0 v1 v2 v3 w0 (1 : Int32) s
def F_X8_addSeason (fl : Nat) (v0 : Nat) (v1 : Int32) (v2 : Int32) (v3 : Int32) (s : Mem) : Option (Int32 × Mem) :=
  bd (F_X8_isNight fl v1 s) fun q23 =>
  if q23 = 0 then (
    B_X8_addSeason_28 fl v0 v1 v2 v3 v0 s)
  else
  bd (F_X8_in fl v2 v1 (59 : Int32) s) fun q26 =>
  if q26 = 0 then (
    B_X8_addSeason_28 fl v0 v1 v2 v3 v0 s)
  else
  bd (F_X8_in fl v3 (1 : Int32) (14 : Int32) s) fun q29 =>
  if q29 = 0 then (
    B_X8_addSeason_28 fl v0 v1 v2 v3 v0 s)
  else
  bd (ldA s v0 1 0) fun r32 =>
  gd (inR (2 : Int32) r32.2) <|
  if (gI s r32.1 (2 : Int32).toNatClampNeg) = (4 : Int32) then (
    B_X8_addSeason_47 fl v0 v1 v2 v3 v0 (2 : Int32) s)
  else
  B_X8_addSeason_47 fl v0 v1 v2 v3 v0 (0 : Int32) s
def B_X8_dropSeason_55 (fl : Nat) : Nat → Nat → Int32 → Mem → Option (Int32 × Mem)
  | 0 => fun _ _ _ => none
  | n + 1 => fun v0 v2 s =>
    bd (ldA s v0 1 0) fun r1 =>
    gd (inR (2 : Int32) r1.2) <|
    if ((38 : Int32) + ((3 : Int32) * (gI s r1.1 (2 : Int32).toNatClampNeg))) ≤ v2 then (
      bd (ldA s v0 1 0) fun r5 =>
      gd (inR (2 : Int32) r5.2) <|
      some ((gI s r5.1 (2 : Int32).toNatClampNeg), s))
    else
    bd (ldA s v0 1 0) fun r8 =>
    bd (ldA s v0 1 0) fun r10 =>
    gd (inR (v2 + (3 : Int32)) r10.2) <|
    gd (inR v2 r8.2) <|
    B_X8_dropSeason_55 fl n v0 (v2 + (1 : Int32)) (pI s r8.1 v2.toNatClampNeg (gI s r10.1 (v2 + (3 : Int32)).toNatClampNeg))
def B_X8_dropSeason_22 (fl : Nat) (v0 : Nat) (v1 : Int32) (w0 : Nat) (w1 : Int32) (s : Mem) : Option (Int32 × Mem) :=
  if (gI (pI s w0 0 w1) v0 0) = 0 then (
    bd (F_X8_keeps fl v0 (pI s w0 0 w1)) fun q15 =>
    bd (ldA q15 v0 1 0) fun r17 =>
    gd (inR (2 : Int32) r17.2) <|
    gd (inR (2 : Int32) r17.2) <|
    B_X8_dropSeason_55 fl fl v0 ((38 : Int32) + ((3 : Int32) * v1)) (pI q15 r17.1 (2 : Int32).toNatClampNeg ((gI q15 r17.1 (2 : Int32).toNatClampNeg) - (1 : Int32))))
  else
  some ((0 : Int32), (pI s w0 0 w1))
def F_X8_dropSeason (fl : Nat) (v0 : Nat) (v1 : Int32) (s : Mem) : Option (Int32 × Mem) :=
  bd (ldA s v0 1 0) fun r21 =>
  gd (inR (2 : Int32) r21.2) <|
  bd (F_X8_in fl v1 (0 : Int32) ((gI s r21.1 (2 : Int32).toNatClampNeg) - (1 : Int32)) s) fun q24 =>
  if q24 = 0 then (
    B_X8_dropSeason_22 fl v0 v1 v0 (1 : Int32) s)
  else
  B_X8_dropSeason_22 fl v0 v1 v0 (0 : Int32) s
def B_X8_season_35 (fl : Nat) (v0 : Nat) (v1 : Int32) (v2 : Int32) (w0 : Nat) (w1 : Int32) (s : Mem) : Option (Int32 × Mem) :=
  if (gI (pI s w0 0 w1) v0 0) = 0 then (
    bd (ldA (pI s w0 0 w1) v0 1 0) fun r2 =>
    gd (inR (((38 : Int32) + ((3 : Int32) * v1)) + v2) r2.2) <|
    some ((gI (pI s w0 0 w1) r2.1 (((38 : Int32) + ((3 : Int32) * v1)) + v2).toNatClampNeg), (pI s w0 0 w1)))
  else
  some ((0 : Int32), (pI s w0 0 w1))
def F_X8_season (fl : Nat) (v0 : Nat) (v1 : Int32) (v2 : Int32) (s : Mem) : Option (Int32 × Mem) :=
  bd (ldA s v0 1 0) fun r5 =>
  gd (inR (2 : Int32) r5.2) <|
  bd (F_X8_in fl v1 (0 : Int32) ((gI s r5.1 (2 : Int32).toNatClampNeg) - (1 : Int32)) s) fun q8 =>
  if q8 = 0 then (
    B_X8_season_35 fl v0 v1 v2 v0 (1 : Int32) s)
  else
  bd (F_X8_in fl v2 (0 : Int32) (2 : Int32) s) fun q11 =>
  if q11 = 0 then (
    B_X8_season_35 fl v0 v1 v2 v0 (2 : Int32) s)
  else
  B_X8_season_35 fl v0 v1 v2 v0 (0 : Int32) s
def B_X8_asked_79 (k5 : Nat → Int32 → Int32 → Int32 → Int32 → Option Int32) (fl : Nat) (s : Mem) (v0 : Nat) (v1 : Int32) (v2 : Int32) (v4 : Int32) (w0 : Int32) : Option Int32 :=
  k5 v0 v1 v2 w0 (v4 + (1 : Int32))
def B_X8_asked_78 (k5 : Nat → Int32 → Int32 → Int32 → Int32 → Option Int32) (fl : Nat) (s : Mem) (v0 : Nat) (v1 : Int32) (v2 : Int32) (v3 : Int32) (v4 : Int32) : Option Int32 :=
  B_X8_asked_79 k5 fl s v0 v1 v2 v4 v3
def B_X8_asked_5 (fl : Nat) (s : Mem) : Nat → Nat → Int32 → Int32 → Int32 → Int32 → Option Int32
  | 0 => fun _ _ _ _ _ => none
  | n + 1 => fun v0 v1 v2 v3 v4 =>
    bd (ldA s v0 1 0) fun r1 =>
    gd (inR (2 : Int32) r1.2) <|
    if (gI s r1.1 (2 : Int32).toNatClampNeg) ≤ v4 then (
      some v3)
    else
    bd (ldA s v0 1 0) fun r5 =>
    gd (inR ((38 : Int32) + ((3 : Int32) * v4)) r5.2) <|
    if ((v1 + v2) - (1 : Int32)) < (gI s r5.1 ((38 : Int32) + ((3 : Int32) * v4)).toNatClampNeg) then (
      B_X8_asked_78 (B_X8_asked_5 fl s n) fl s v0 v1 v2 v3 v4)
    else
    bd (ldA s v0 1 0) fun r9 =>
    gd (inR (((38 : Int32) + ((3 : Int32) * v4)) + (1 : Int32)) r9.2) <|
    if (gI s r9.1 (((38 : Int32) + ((3 : Int32) * v4)) + (1 : Int32)).toNatClampNeg) < v1 then (
      B_X8_asked_78 (B_X8_asked_5 fl s n) fl s v0 v1 v2 v3 v4)
    else
    bd (ldA s v0 1 0) fun r13 =>
    gd (inR (((38 : Int32) + ((3 : Int32) * v4)) + (2 : Int32)) r13.2) <|
    if (gI s r13.1 (((38 : Int32) + ((3 : Int32) * v4)) + (2 : Int32)).toNatClampNeg) ≤ v3 then (
      B_X8_asked_78 (B_X8_asked_5 fl s n) fl s v0 v1 v2 v3 v4)
    else
    bd (ldA s v0 1 0) fun r17 =>
    gd (inR (((38 : Int32) + ((3 : Int32) * v4)) + (2 : Int32)) r17.2) <|
    B_X8_asked_79 (B_X8_asked_5 fl s n) fl s v0 v1 v2 v4 (gI s r17.1 (((38 : Int32) + ((3 : Int32) * v4)) + (2 : Int32)).toNatClampNeg)
def F_X8_asked (fl : Nat) (v0 : Nat) (v1 : Int32) (v2 : Int32) (s : Mem) : Option Int32 :=
  B_X8_asked_5 fl s fl v0 v1 v2 (1 : Int32) (0 : Int32)
def B_X8_leastStay_34 (fl : Nat) (v0 : Nat) (v1 : Int32) (v2 : Int32) (w0 : Nat) (w1 : Int32) (s : Mem) : Option (Int32 × Mem) :=
  if (gI (pI s w0 0 w1) v0 0) = 0 then (
    bd (F_X8_asked fl v0 v1 v2 (pI s w0 0 w1)) fun q2 =>
    some (q2, (pI s w0 0 w1)))
  else
  some ((0 : Int32), (pI s w0 0 w1))
def B_X8_leastStay_33 (fl : Nat) (v0 : Nat) (v1 : Int32) (v2 : Int32) (w0 : Nat) (s : Mem) : Option (Int32 × Mem) :=
  B_X8_leastStay_34 fl v0 v1 v2 w0 (1 : Int32) s
def F_X8_leastStay (fl : Nat) (v0 : Nat) (v1 : Int32) (v2 : Int32) (s : Mem) : Option (Int32 × Mem) :=
  bd (F_X8_isNight fl v1 s) fun q4 =>
  if q4 = 0 then (
    B_X8_leastStay_33 fl v0 v1 v2 v0 s)
  else
  bd (F_X8_in fl v2 (1 : Int32) (14 : Int32) s) fun q7 =>
  if q7 = 0 then (
    B_X8_leastStay_33 fl v0 v1 v2 v0 s)
  else
  bd (F_X8_isNight fl ((v1 + v2) - (1 : Int32)) s) fun q10 =>
  if q10 = 0 then (
    B_X8_leastStay_33 fl v0 v1 v2 v0 s)
  else
  B_X8_leastStay_34 fl v0 v1 v2 v0 (0 : Int32) s
def F_X8_comes (fl : Nat) (v0 : Nat) (v1 : Int32) (v2 : Int32) (v3 : Int32) (s : Mem) : Option Mem :=
  bd (ldA s v0 5 0) fun r1 =>
  gd (inR (12 : Int32) r1.2) <|
  bd (ldA (pI s r1.1 (12 : Int32).toNatClampNeg v2) v0 6 0) fun r4 =>
  gd (inR (12 : Int32) r4.2) <|
  bd (ldA (pI (pI s r1.1 (12 : Int32).toNatClampNeg v2) r4.1 (12 : Int32).toNatClampNeg v3) v0 7 0) fun r7 =>
  gd (inR (12 : Int32) r7.2) <|
  some (pI (pI (pI s r1.1 (12 : Int32).toNatClampNeg v2) r4.1 (12 : Int32).toNatClampNeg v3) r7.1 (12 : Int32).toNatClampNeg v1)
def B_X8_gapsOfAll_4 (fl : Nat) : Nat → Nat → Int32 → Int32 → Mem → Option (Int32 × Mem)
  | 0 => fun _ _ _ _ => none
  | n + 1 => fun v0 v1 v2 s =>
    bd (ldA s v0 1 0) fun r1 =>
    gd (inR (0 : Int32) r1.2) <|
    if (gI s r1.1 (0 : Int32).toNatClampNeg) ≤ v2 then (
      some (v1, s))
    else
    bd (F_X8_maskOf fl v0 v2 s) fun q5 =>
    bd (F_X8_gapsOf fl v0 q5 s) fun q7 =>
    B_X8_gapsOfAll_4 fl n v0 (v1 + q7.1) (v2 + (1 : Int32)) q7.2
def F_X8_gapsOfAll (fl : Nat) (v0 : Nat) (s : Mem) : Option (Int32 × Mem) :=
  B_X8_gapsOfAll_4 fl fl v0 (0 : Int32) (0 : Int32) s
def B_X8_powerAt_81 (k5 : Nat → Int32 → Int32 → Int32 → Int32 → Option Int32) (fl : Nat) (s : Mem) (v0 : Nat) (v1 : Int32) (v2 : Int32) (v4 : Int32) (w0 : Int32) (w1 : Int32) : Option Int32 :=
  k5 v0 v1 v2 (w0 + w1) (v4 + (1 : Int32))
def B_X8_powerAt_80 (k5 : Nat → Int32 → Int32 → Int32 → Int32 → Option Int32) (fl : Nat) (s : Mem) (v0 : Nat) (v1 : Int32) (v2 : Int32) (v4 : Int32) (w0 : Int32) : Option Int32 :=
  B_X8_powerAt_81 k5 fl s v0 v1 v2 v4 w0 (0 : Int32)
def B_X8_powerAt_5 (fl : Nat) (s : Mem) : Nat → Nat → Int32 → Int32 → Int32 → Int32 → Option Int32
  | 0 => fun _ _ _ _ _ => none
  | n + 1 => fun v0 v1 v2 v3 v4 =>
    if (12 : Int32) < v4 then (
      some v3)
    else
    bd (ldA s v0 4 0) fun r2 =>
    gd (inR v4 r2.2) <|
    if (gI s r2.1 v4.toNatClampNeg) < 0 then (
      B_X8_powerAt_80 (B_X8_powerAt_5 fl s n) fl s v0 v1 v2 v4 v3)
    else
    bd (ldA s v0 4 0) fun r6 =>
    gd (inR v4 r6.2) <|
    bd (F_X8_ofPitch fl v0 (gI s r6.1 v4.toNatClampNeg) (3 : Int32) s) fun q9 =>
    if q9 = v1 then (
      bd (ldA s v0 5 0) fun r12 =>
      gd (inR v4 r12.2) <|
      bd (ldA s v0 5 0) fun r15 =>
      gd (inR v4 r15.2) <|
      bd (ldA s v0 6 0) fun r18 =>
      gd (inR v4 r18.2) <|
      bd (F_X8_in fl v2 (gI s r12.1 v4.toNatClampNeg) (((gI s r15.1 v4.toNatClampNeg) + (gI s r18.1 v4.toNatClampNeg)) - (1 : Int32)) s) fun q21 =>
      if q21 = 0 then (
        B_X8_powerAt_80 (B_X8_powerAt_5 fl s n) fl s v0 v1 v2 v4 v3)
      else
      bd (ldA s v0 7 0) fun r24 =>
      gd (inR v4 r24.2) <|
      B_X8_powerAt_81 (B_X8_powerAt_5 fl s n) fl s v0 v1 v2 v4 v3 (gI s r24.1 v4.toNatClampNeg))
    else
    B_X8_powerAt_80 (B_X8_powerAt_5 fl s n) fl s v0 v1 v2 v4 v3
def F_X8_powerAt (fl : Nat) (v0 : Nat) (v1 : Int32) (v2 : Int32) (s : Mem) : Option Int32 :=
  B_X8_powerAt_5 fl s fl v0 v1 v2 (0 : Int32) (0 : Int32)
def B_X8_fits_53 (fl : Nat) (s : Mem) (v0 : Nat) (v4 : Int32) (v5 : Int32) : Option Int32 :=
  if v4 = 0 then (
    some (1 : Int32))
  else
  bd (F_X8_ofPitch fl v0 v5 (3 : Int32) s) fun q2 =>
  if q2 < 0 then (
    some (0 : Int32))
  else
  some (1 : Int32)
def B_X8_fits_41 (fl : Nat) (s : Mem) (v0 : Nat) (v2 : Int32) (v3 : Int32) (v4 : Int32) (v5 : Int32) (v6 : Int32) (v7 : Int32) : Option Int32 :=
  if v6 < v3 then (
    some (0 : Int32))
  else
  if v7 < v2 then (
    some (0 : Int32))
  else
  B_X8_fits_53 fl s v0 v4 v5
def F_X8_fits (fl : Nat) (v0 : Nat) (v1 : Int32) (v2 : Int32) (v3 : Int32) (v4 : Int32) (v5 : Int32) (s : Mem) : Option Int32 :=
  bd (F_X8_ofPitch fl v0 v5 (1 : Int32) s) fun q7 =>
  bd (F_X8_ofPitch fl v0 v5 (2 : Int32) s) fun q9 =>
  bd (F_X8_ofPitch fl v0 v5 (0 : Int32) s) fun q11 =>
  if q11 < v1 then (
    some (0 : Int32))
  else
  if q7 < v2 then (
    B_X8_fits_41 fl s v0 v2 v3 v4 v5 q7 q9)
  else
  if v3 ≤ q9 then (
    B_X8_fits_53 fl s v0 v4 v5)
  else
  B_X8_fits_41 fl s v0 v2 v3 v4 v5 q7 q9
def F_X8_isAlone (fl : Nat) (v0 : Nat) (v1 : Int32) (s : Mem) : Option Int32 :=
  bd (ldA s v0 4 0) fun r1 =>
  gd (inR v1 r1.2) <|
  bd (F_X8_maskOf_ fl v0 (gI s r1.1 v1.toNatClampNeg) v1 s) fun q4 =>
  bd (ldA s v0 5 0) fun r6 =>
  gd (inR v1 r6.2) <|
  bd (ldA s v0 6 0) fun r9 =>
  gd (inR v1 r9.2) <|
  bd (F_X8_mask fl (gI s r6.1 v1.toNatClampNeg) (gI s r9.1 v1.toNatClampNeg) s) fun q12 =>
  if (lg_cmp (q4 &&& q12) (0 : Int64)) = 0 then (
    some (1 : Int32))
  else
  some (0 : Int32)
def B_X8_hasPower_19 (fl : Nat) (s : Mem) : Nat → Nat → Int32 → Int32 → Int32 → Option Int32
  | 0 => fun _ _ _ _ => none
  | n + 1 => fun v0 v1 v2 v3 =>
    if v2 < 0 then (
      some (1 : Int32))
    else
    bd (ldA s v0 5 0) fun r2 =>
    gd (inR v1 r2.2) <|
    bd (ldA s v0 6 0) fun r5 =>
    gd (inR v1 r5.2) <|
    if ((gI s r2.1 v1.toNatClampNeg) + (gI s r5.1 v1.toNatClampNeg)) ≤ v3 then (
      some (1 : Int32))
    else
    bd (F_X8_powerAt fl v0 v2 v3 s) fun q9 =>
    bd (ldA s v0 1 0) fun r11 =>
    gd (inR ((5 : Int32) + v2) r11.2) <|
    if q9 ≤ (gI s r11.1 ((5 : Int32) + v2).toNatClampNeg) then (
      B_X8_hasPower_19 fl s n v0 v1 v2 (v3 + (1 : Int32)))
    else
    some (0 : Int32)
def F_X8_hasPower (fl : Nat) (v0 : Nat) (v1 : Int32) (s : Mem) : Option Int32 :=
  bd (ldA s v0 4 0) fun r15 =>
  gd (inR v1 r15.2) <|
  bd (F_X8_ofPitch fl v0 (gI s r15.1 v1.toNatClampNeg) (3 : Int32) s) fun q18 =>
  bd (ldA s v0 5 0) fun r20 =>
  gd (inR v1 r20.2) <|
  B_X8_hasPower_19 fl s fl v0 v1 q18 (gI s r20.1 v1.toNatClampNeg)
def F_X8_staysLong (fl : Nat) (v0 : Nat) (s : Mem) : Option Int32 :=
  bd (ldA s v0 5 0) fun r1 =>
  gd (inR (12 : Int32) r1.2) <|
  bd (ldA s v0 6 0) fun r4 =>
  gd (inR (12 : Int32) r4.2) <|
  bd (F_X8_asked fl v0 (gI s r1.1 (12 : Int32).toNatClampNeg) (gI s r4.1 (12 : Int32).toNatClampNeg) s) fun q7 =>
  bd (ldA s v0 6 0) fun r9 =>
  gd (inR (12 : Int32) r9.2) <|
  if (gI s r9.1 (12 : Int32).toNatClampNeg) < q7 then (
    bd (ldA s v0 4 0) fun r13 =>
    gd (inR (12 : Int32) r13.2) <|
    bd (F_X8_maskOf_ fl v0 (gI s r13.1 (12 : Int32).toNatClampNeg) (12 : Int32) s) fun q16 =>
    bd (ldA s v0 5 0) fun r18 =>
    gd (inR (12 : Int32) r18.2) <|
    bd (ldA s v0 5 0) fun r21 =>
    gd (inR (12 : Int32) r21.2) <|
    bd (ldA s v0 6 0) fun r24 =>
    gd (inR (12 : Int32) r24.2) <|
    bd (F_X8_isNight fl ((gI s r18.1 (12 : Int32).toNatClampNeg) - (1 : Int32)) s) fun q27 =>
    if q27 = 0 then (
      some (0 : Int32))
    else
    bd (F_X8_isNight fl ((gI s r21.1 (12 : Int32).toNatClampNeg) + (gI s r24.1 (12 : Int32).toNatClampNeg)) s) fun q30 =>
    if q30 = 0 then (
      some (0 : Int32))
    else
    if (lg_cmp ((q16 >>> (Int32.toInt64 ((gI s r18.1 (12 : Int32).toNatClampNeg) - (1 : Int32)) &&& 63)) &&& (1 : Int64)) (1 : Int64)) = 0 then (
      if (lg_cmp ((q16 >>> (Int32.toInt64 ((gI s r21.1 (12 : Int32).toNatClampNeg) + (gI s r24.1 (12 : Int32).toNatClampNeg)) &&& 63)) &&& (1 : Int64)) (1 : Int64)) = 0 then (
        some (1 : Int32))
      else
      some (0 : Int32))
    else
    some (0 : Int32))
  else
  some (1 : Int32)
def B_X8_obstacleOf_87 (fl : Nat) (v0 : Nat) (w0 : Int32) (s : Mem) : Option (Int32 × Mem) :=
  bd (ldA s v0 4 0) fun r1 =>
  gd (inR (12 : Int32) r1.2) <|
  some (w0, (pI s r1.1 (12 : Int32).toNatClampNeg (-1 : Int32)))
def F_X8_obstacleOf (fl : Nat) (v0 : Nat) (v1 : Int32) (v2 : Int32) (v3 : Int32) (v4 : Int32) (s : Mem) : Option (Int32 × Mem) :=
  bd (ldA s v0 7 0) fun r4 =>
  gd (inR (12 : Int32) r4.2) <|
  bd (F_X8_fits fl v0 v1 v2 v3 (gI s r4.1 (12 : Int32).toNatClampNeg) v4 s) fun q7 =>
  if q7 = 0 then (
    some ((1 : Int32), s))
  else
  bd (F_X8_gapsOfAll fl v0 s) fun q10 =>
  bd (ldA q10.2 v0 4 0) fun r12 =>
  gd (inR (12 : Int32) r12.2) <|
  bd (F_X8_isAlone fl v0 (12 : Int32) (pI q10.2 r12.1 (12 : Int32).toNatClampNeg v4)) fun q15 =>
  if q15 = 0 then (
    B_X8_obstacleOf_87 fl v0 (2 : Int32) (pI q10.2 r12.1 (12 : Int32).toNatClampNeg v4))
  else
  bd (F_X8_hasPower fl v0 (12 : Int32) (pI q10.2 r12.1 (12 : Int32).toNatClampNeg v4)) fun q18 =>
  if q18 = 0 then (
    B_X8_obstacleOf_87 fl v0 (3 : Int32) (pI q10.2 r12.1 (12 : Int32).toNatClampNeg v4))
  else
  bd (F_X8_staysLong fl v0 (pI q10.2 r12.1 (12 : Int32).toNatClampNeg v4)) fun q21 =>
  if q21 = 0 then (
    B_X8_obstacleOf_87 fl v0 (4 : Int32) (pI q10.2 r12.1 (12 : Int32).toNatClampNeg v4))
  else
  bd (F_X8_gapsOfAll fl v0 (pI q10.2 r12.1 (12 : Int32).toNatClampNeg v4)) fun q24 =>
  if q24.1 ≤ q10.1 then (
    B_X8_obstacleOf_87 fl v0 (0 : Int32) q24.2)
  else
  B_X8_obstacleOf_87 fl v0 (5 : Int32) q24.2
def B_X8_isRight_62 (fl : Nat) : Nat → Nat → Int32 → Mem → Option (Int32 × Mem)
  | 0 => fun _ _ _ => none
  | n + 1 => fun v0 v1 s =>
    if (gI s v0 11) ≤ v1 then (
      bd (F_X8_gapsOfAll fl v0 s) fun q2 =>
      if (gI q2.2 v0 10) < q2.1 then (
        some ((0 : Int32), q2.2))
      else
      some ((1 : Int32), q2.2))
    else
    bd (ldA s v0 12 0) fun r5 =>
    gd (inR v1 r5.2) <|
    bd (F_X8_hasPower fl v0 (gI s r5.1 v1.toNatClampNeg) s) fun q8 =>
    if q8 = 0 then (
      some ((0 : Int32), s))
    else
    B_X8_isRight_62 fl n v0 (v1 + (1 : Int32)) s
def B_X8_isRight_13 (fl : Nat) : Nat → Nat → Int32 → Mem → Option (Int32 × Mem)
  | 0 => fun _ _ _ => none
  | n + 1 => fun v0 v1 s =>
    if (gI s v0 11) ≤ v1 then (
      bd (F_X8_hasPower fl v0 (12 : Int32) s) fun q12 =>
      if q12 = 0 then (
        some ((0 : Int32), s))
      else
      bd (F_X8_staysLong fl v0 s) fun q15 =>
      if q15 = 0 then (
        some ((0 : Int32), s))
      else
      B_X8_isRight_62 fl fl v0 (0 : Int32) s)
    else
    bd (ldA s v0 12 0) fun r18 =>
    gd (inR v1 r18.2) <|
    bd (F_X8_isAlone fl v0 (gI s r18.1 v1.toNatClampNeg) s) fun q21 =>
    if q21 = 0 then (
      some ((0 : Int32), s))
    else
    B_X8_isRight_13 fl n v0 (v1 + (1 : Int32)) s
def F_X8_isRight (fl : Nat) (v0 : Nat) (s : Mem) : Option (Int32 × Mem) :=
  bd (F_X8_isAlone fl v0 (12 : Int32) s) fun q24 =>
  if q24 = 0 then (
    some ((0 : Int32), s))
  else
  B_X8_isRight_13 fl fl v0 (0 : Int32) s
def F_X8_canMove (fl : Nat) (v0 : Nat) (v1 : Int32) (s : Mem) : Option Int32 :=
  bd (ldA s v0 4 0) fun r1 =>
  gd (inR v1 r1.2) <|
  if (gI s r1.1 v1.toNatClampNeg) < 0 then (
    some (0 : Int32))
  else
  bd (F_X8_of fl v0 v1 (4 : Int32) s) fun q5 =>
  bd (ldA s v0 1 0) fun r7 =>
  gd (inR (3 : Int32) r7.2) <|
  if q5 < (gI s r7.1 (3 : Int32).toNatClampNeg) then (
    some (0 : Int32))
  else
  some (1 : Int32)
def B_X8_plans_164 (self : Nat → Int32 → Int32 → Mem → Option (Int32 × Mem)) (k11 : Nat → Int32 → Int32 → Mem → Option (Int32 × Mem)) (fl : Nat) (v0 : Nat) (v2 : Int32) (v3 : Int32) (s : Mem) : Option (Int32 × Mem) :=
  k11 v0 v2 (v3 + (1 : Int32)) s
def B_X8_plans_150 (self : Nat → Int32 → Int32 → Mem → Option (Int32 × Mem)) (k11 : Nat → Int32 → Int32 → Mem → Option (Int32 × Mem)) (k43 : Nat → Int32 → Int32 → Int32 → Int32 → Mem → Option (Int32 × Mem)) (fl : Nat) (v0 : Nat) (v2 : Int32) (v3 : Int32) (v4 : Int32) (v5 : Int32) (s : Mem) : Option (Int32 × Mem) :=
  k43 v0 v2 v3 v4 (v5 + (1 : Int32)) s
def B_X8_plans_43 (self : Nat → Int32 → Int32 → Mem → Option (Int32 × Mem)) (k11 : Nat → Int32 → Int32 → Mem → Option (Int32 × Mem)) (fl : Nat) : Nat → Nat → Int32 → Int32 → Int32 → Int32 → Mem → Option (Int32 × Mem)
  | 0 => fun _ _ _ _ _ _ => none
  | n + 1 => fun v0 v2 v3 v4 v5 s =>
    bd (ldA s v0 1 0) fun r1 =>
    gd (inR (0 : Int32) r1.2) <|
    if (gI s r1.1 (0 : Int32).toNatClampNeg) ≤ v5 then (
      bd (ldA s v0 4 0) fun r5 =>
      gd (inR v3 r5.2) <|
      B_X8_plans_164 self k11 fl v0 v2 v3 (pI s r5.1 v3.toNatClampNeg v4))
    else
    if v5 = v4 then (
      B_X8_plans_150 self k11 (B_X8_plans_43 self k11 fl n) fl v0 v2 v3 v4 v5 s)
    else
    bd (F_X8_of fl v0 v3 (0 : Int32) s) fun q9 =>
    bd (F_X8_of fl v0 v3 (1 : Int32) s) fun q11 =>
    bd (F_X8_of fl v0 v3 (2 : Int32) s) fun q13 =>
    bd (F_X8_of fl v0 v3 (3 : Int32) s) fun q15 =>
    bd (F_X8_fits fl v0 q9 q11 q13 q15 v5 s) fun q17 =>
    if q17 = 0 then (
      B_X8_plans_150 self k11 (B_X8_plans_43 self k11 fl n) fl v0 v2 v3 v4 v5 s)
    else
    bd (ldA s v0 4 0) fun r20 =>
    gd (inR v3 r20.2) <|
    bd (ldA (pI s r20.1 v3.toNatClampNeg v5) v0 12 0) fun r23 =>
    gd (inR (gI (pI s r20.1 v3.toNatClampNeg v5) v0 11) r23.2) <|
    bd (self v0 (v3 + (1 : Int32)) (v2 - (1 : Int32)) (pI (pI (pI s r20.1 v3.toNatClampNeg v5) r23.1 (gI (pI s r20.1 v3.toNatClampNeg v5) v0 11).toNatClampNeg v3) v0 11 ((gI (pI (pI s r20.1 v3.toNatClampNeg v5) r23.1 (gI (pI s r20.1 v3.toNatClampNeg v5) v0 11).toNatClampNeg v3) v0 11) + (1 : Int32)))) fun q26 =>
    if q26.1 = 0 then (
      B_X8_plans_150 self k11 (B_X8_plans_43 self k11 fl n) fl v0 v2 v3 v4 v5 (pI q26.2 v0 11 ((gI q26.2 v0 11) - (1 : Int32))))
    else
    some ((1 : Int32), q26.2)
def B_X8_plans_11 (self : Nat → Int32 → Int32 → Mem → Option (Int32 × Mem)) (fl : Nat) : Nat → Nat → Int32 → Int32 → Mem → Option (Int32 × Mem)
  | 0 => fun _ _ _ _ => none
  | n + 1 => fun v0 v2 v3 s =>
    bd (ldA s v0 1 0) fun r29 =>
    gd (inR (1 : Int32) r29.2) <|
    if (gI s r29.1 (1 : Int32).toNatClampNeg) ≤ v3 then (
      some ((0 : Int32), s))
    else
    bd (F_X8_canMove fl v0 v3 s) fun q33 =>
    if q33 = 0 then (
      B_X8_plans_164 self (B_X8_plans_11 self fl n) fl v0 v2 v3 s)
    else
    bd (ldA s v0 4 0) fun r36 =>
    gd (inR v3 r36.2) <|
    B_X8_plans_43 self (B_X8_plans_11 self fl n) fl fl v0 v2 v3 (gI s r36.1 v3.toNatClampNeg) (0 : Int32) s
def G_X8_plans (self : Nat → Int32 → Int32 → Mem → Option (Int32 × Mem)) (fl : Nat) (v0 : Nat) (v1 : Int32) (v2 : Int32) (s : Mem) : Option (Int32 × Mem) :=
  if v2 = 0 then (
    bd (F_X8_isRight fl v0 s) fun q40 =>
    gd (q40.1 = 0 ∨ q40.1 = 1) <|
    some (q40.1, q40.2))
  else
  B_X8_plans_11 self fl fl v0 v2 v1 s
def F_X8_plans (fl : Nat) : Nat → Nat → Int32 → Int32 → Mem → Option (Int32 × Mem)
  | 0 => fun _ _ _ _ => none
  | d + 1 => fun v0 v1 v2 s => G_X8_plans (F_X8_plans fl d) fl v0 v1 v2 s
def B_X8_fitting_129 (k6 : Nat → Int32 → Int32 → Int32 → Int32 → Int32 → Mem → Option (Int32 × Mem)) (fl : Nat) (v0 : Nat) (v1 : Int32) (v2 : Int32) (v3 : Int32) (v4 : Int32) (v5 : Int32) (s : Mem) : Option (Int32 × Mem) :=
  k6 v0 v1 v2 v3 v4 (v5 + (1 : Int32)) s
def B_X8_fitting_117 (k6 : Nat → Int32 → Int32 → Int32 → Int32 → Int32 → Mem → Option (Int32 × Mem)) (fl : Nat) (v0 : Nat) (v1 : Int32) (v2 : Int32) (v3 : Int32) (v4 : Int32) (v5 : Int32) (v6 : Int32) (s : Mem) : Option (Int32 × Mem) :=
  bd (ldA s v0 13 0) fun r1 =>
  gd (inR v6 r1.2) <|
  B_X8_fitting_129 k6 fl v0 v1 v2 v3 (v4 + (1 : Int32)) v5 (pI s r1.1 v6.toNatClampNeg v5)
def B_X8_fitting_43 (k6 : Nat → Int32 → Int32 → Int32 → Int32 → Int32 → Mem → Option (Int32 × Mem)) (fl : Nat) : Nat → Nat → Int32 → Int32 → Int32 → Int32 → Int32 → Int32 → Mem → Option (Int32 × Mem)
  | 0 => fun _ _ _ _ _ _ _ _ => none
  | n + 1 => fun v0 v1 v2 v3 v4 v5 v6 s =>
    if v6 ≤ 0 then (
      B_X8_fitting_117 k6 fl v0 v1 v2 v3 v4 v5 v6 s)
    else
    bd (ldA s v0 13 0) fun r5 =>
    gd (inR (v6 - (1 : Int32)) r5.2) <|
    bd (F_X8_ofPitch fl v0 (gI s r5.1 (v6 - (1 : Int32)).toNatClampNeg) (1 : Int32) s) fun q8 =>
    bd (ldA s v0 13 0) fun r10 =>
    gd (inR (v6 - (1 : Int32)) r10.2) <|
    bd (F_X8_ofPitch fl v0 (gI s r10.1 (v6 - (1 : Int32)).toNatClampNeg) (2 : Int32) s) fun q13 =>
    bd (F_X8_ofPitch fl v0 v5 (1 : Int32) s) fun q15 =>
    bd (F_X8_ofPitch fl v0 v5 (2 : Int32) s) fun q17 =>
    if (q8 * q13) ≤ (q15 * q17) then (
      B_X8_fitting_117 k6 fl v0 v1 v2 v3 v4 v5 v6 s)
    else
    bd (ldA s v0 13 0) fun r20 =>
    bd (ldA s v0 13 0) fun r22 =>
    gd (inR (v6 - (1 : Int32)) r22.2) <|
    gd (inR v6 r20.2) <|
    B_X8_fitting_43 k6 fl n v0 v1 v2 v3 v4 v5 (v6 + (-1 : Int32)) (pI s r20.1 v6.toNatClampNeg (gI s r22.1 (v6 - (1 : Int32)).toNatClampNeg))
def B_X8_fitting_6 (fl : Nat) : Nat → Nat → Int32 → Int32 → Int32 → Int32 → Int32 → Mem → Option (Int32 × Mem)
  | 0 => fun _ _ _ _ _ _ _ => none
  | n + 1 => fun v0 v1 v2 v3 v4 v5 s =>
    bd (ldA s v0 1 0) fun r26 =>
    gd (inR (0 : Int32) r26.2) <|
    if (gI s r26.1 (0 : Int32).toNatClampNeg) ≤ v5 then (
      some (v4, s))
    else
    bd (ldA s v0 7 0) fun r30 =>
    gd (inR (12 : Int32) r30.2) <|
    bd (F_X8_fits fl v0 v1 v2 v3 (gI s r30.1 (12 : Int32).toNatClampNeg) v5 s) fun q33 =>
    if q33 = 0 then (
      B_X8_fitting_129 (B_X8_fitting_6 fl n) fl v0 v1 v2 v3 v4 v5 s)
    else
    B_X8_fitting_43 (B_X8_fitting_6 fl n) fl fl v0 v1 v2 v3 v4 v5 v4 s
def F_X8_fitting (fl : Nat) (v0 : Nat) (v1 : Int32) (v2 : Int32) (v3 : Int32) (s : Mem) : Option (Int32 × Mem) :=
  B_X8_fitting_6 fl fl v0 v1 v2 v3 (0 : Int32) (0 : Int32) s
def B_X8_finds_29 (k20 : Nat → Int32 → Int32 → Mem → Option (Int32 × Mem)) (fl : Nat) : Nat → Nat → Int32 → Int32 → Int32 → Mem → Option (Int32 × Mem)
  | 0 => fun _ _ _ _ _ => none
  | n + 1 => fun v0 v4 v5 v6 s =>
    if v4 ≤ v6 then (
      k20 v0 v4 (v5 + (1 : Int32)) s)
    else
    bd (ldA s v0 4 0) fun r2 =>
    bd (ldA s v0 13 0) fun r4 =>
    gd (inR v6 r4.2) <|
    gd (inR (12 : Int32) r2.2) <|
    bd (F_X8_plans fl 4 v0 (0 : Int32) v5 (pI (pI s r2.1 (12 : Int32).toNatClampNeg (gI s r4.1 v6.toNatClampNeg)) v0 11 (0 : Int32))) fun q8 =>
    if q8.1 = 0 then (
      B_X8_finds_29 k20 fl n v0 v4 v5 (v6 + (1 : Int32)) q8.2)
    else
    some ((1 : Int32), q8.2)
def B_X8_finds_20 (fl : Nat) : Nat → Nat → Int32 → Int32 → Mem → Option (Int32 × Mem)
  | 0 => fun _ _ _ _ => none
  | n + 1 => fun v0 v4 v5 s =>
    if (3 : Int32) ≤ v5 then (
      bd (ldA s v0 4 0) fun r12 =>
      gd (inR (12 : Int32) r12.2) <|
      some ((0 : Int32), (pI s r12.1 (12 : Int32).toNatClampNeg (-1 : Int32))))
    else
    B_X8_finds_29 (B_X8_finds_20 fl n) fl fl v0 v4 v5 (0 : Int32) s
def F_X8_finds (fl : Nat) (v0 : Nat) (v1 : Int32) (v2 : Int32) (v3 : Int32) (s : Mem) : Option (Int32 × Mem) :=
  bd (F_X8_gapsOfAll fl v0 s) fun q15 =>
  bd (F_X8_fitting fl v0 v1 v2 v3 (pI q15.2 v0 10 q15.1)) fun q17 =>
  B_X8_finds_20 fl fl v0 q17.1 (0 : Int32) q17.2
def B_X8_book_248 (fl : Nat) : Nat → Nat → Int32 → Int32 → Int32 → Int32 → Int32 → Int32 → Int32 → Mem → Option (Int32 × Mem)
  | 0 => fun _ _ _ _ _ _ _ _ _ => none
  | n + 1 => fun v0 v1 v2 v3 v4 v5 v6 v8 s =>
    if (gI s v0 11) ≤ v8 then (
      bd (ldA s v0 1 0) fun r2 =>
      gd (inR (1 : Int32) r2.2) <|
      bd (ldA s v0 1 0) fun r5 =>
      gd (inR (1 : Int32) r5.2) <|
      gd (inR (1 : Int32) r5.2) <|
      bd (F_X8_lays fl v0 (gI s r2.1 (1 : Int32).toNatClampNeg) (0 : Int32) v1 (pI s r5.1 (1 : Int32).toNatClampNeg ((gI s r5.1 (1 : Int32).toNatClampNeg) + (1 : Int32)))) fun q9 =>
      bd (F_X8_lays fl v0 (gI s r2.1 (1 : Int32).toNatClampNeg) (1 : Int32) v2 q9) fun q11 =>
      bd (F_X8_lays fl v0 (gI s r2.1 (1 : Int32).toNatClampNeg) (2 : Int32) v3 q11) fun q13 =>
      bd (F_X8_lays fl v0 (gI s r2.1 (1 : Int32).toNatClampNeg) (3 : Int32) v4 q13) fun q15 =>
      bd (F_X8_lays fl v0 (gI s r2.1 (1 : Int32).toNatClampNeg) (4 : Int32) v5 q15) fun q17 =>
      bd (F_X8_lays fl v0 (gI s r2.1 (1 : Int32).toNatClampNeg) (5 : Int32) v6 q17) fun q19 =>
      bd (ldA q19 v0 4 0) fun r21 =>
      gd (inR (12 : Int32) r21.2) <|
      bd (F_X8_lays fl v0 (gI s r2.1 (1 : Int32).toNatClampNeg) (6 : Int32) (gI q19 r21.1 (12 : Int32).toNatClampNeg) q19) fun q24 =>
      bd (ldA q24 v0 4 0) fun r26 =>
      gd (inR (12 : Int32) r26.2) <|
      bd (F_X8_ofPitch fl v0 (gI q24 r26.1 (12 : Int32).toNatClampNeg) (4 : Int32) q24) fun q29 =>
      bd (F_X8_lays fl v0 (gI s r2.1 (1 : Int32).toNatClampNeg) (7 : Int32) ((q29 + v4) * v6) q24) fun q31 =>
      bd (F_X8_lays fl v0 (gI s r2.1 (1 : Int32).toNatClampNeg) (8 : Int32) (1 : Int32) q31) fun q33 =>
      bd (F_X8_lays fl v0 (gI s r2.1 (1 : Int32).toNatClampNeg) (9 : Int32) (0 : Int32) q33) fun q35 =>
      some ((gI s r2.1 (1 : Int32).toNatClampNeg), q35))
    else
    bd (ldA s v0 12 0) fun r37 =>
    gd (inR v8 r37.2) <|
    bd (ldA s v0 16 0) fun r40 =>
    gd (inR ((3 : Int32) * v8) r40.2) <|
    bd (ldA (pI s r40.1 ((3 : Int32) * v8).toNatClampNeg (gI s r37.1 v8.toNatClampNeg)) v0 16 0) fun r43 =>
    bd (F_X8_of fl v0 (gI s r37.1 v8.toNatClampNeg) (6 : Int32) (pI s r40.1 ((3 : Int32) * v8).toNatClampNeg (gI s r37.1 v8.toNatClampNeg))) fun q45 =>
    gd (inR (((3 : Int32) * v8) + (1 : Int32)) r43.2) <|
    bd (ldA (pI (pI s r40.1 ((3 : Int32) * v8).toNatClampNeg (gI s r37.1 v8.toNatClampNeg)) r43.1 (((3 : Int32) * v8) + (1 : Int32)).toNatClampNeg q45) v0 16 0) fun r48 =>
    bd (ldA (pI (pI s r40.1 ((3 : Int32) * v8).toNatClampNeg (gI s r37.1 v8.toNatClampNeg)) r43.1 (((3 : Int32) * v8) + (1 : Int32)).toNatClampNeg q45) v0 4 0) fun r50 =>
    gd (inR (gI s r37.1 v8.toNatClampNeg) r50.2) <|
    gd (inR (((3 : Int32) * v8) + (2 : Int32)) r48.2) <|
    bd (ldA (pI (pI (pI s r40.1 ((3 : Int32) * v8).toNatClampNeg (gI s r37.1 v8.toNatClampNeg)) r43.1 (((3 : Int32) * v8) + (1 : Int32)).toNatClampNeg q45) r48.1 (((3 : Int32) * v8) + (2 : Int32)).toNatClampNeg (gI (pI (pI s r40.1 ((3 : Int32) * v8).toNatClampNeg (gI s r37.1 v8.toNatClampNeg)) r43.1 (((3 : Int32) * v8) + (1 : Int32)).toNatClampNeg q45) r50.1 (gI s r37.1 v8.toNatClampNeg).toNatClampNeg)) v0 4 0) fun r54 =>
    gd (inR (gI s r37.1 v8.toNatClampNeg) r54.2) <|
    bd (F_X8_lays fl v0 (gI s r37.1 v8.toNatClampNeg) (6 : Int32) (gI (pI (pI (pI s r40.1 ((3 : Int32) * v8).toNatClampNeg (gI s r37.1 v8.toNatClampNeg)) r43.1 (((3 : Int32) * v8) + (1 : Int32)).toNatClampNeg q45) r48.1 (((3 : Int32) * v8) + (2 : Int32)).toNatClampNeg (gI (pI (pI s r40.1 ((3 : Int32) * v8).toNatClampNeg (gI s r37.1 v8.toNatClampNeg)) r43.1 (((3 : Int32) * v8) + (1 : Int32)).toNatClampNeg q45) r50.1 (gI s r37.1 v8.toNatClampNeg).toNatClampNeg)) r54.1 (gI s r37.1 v8.toNatClampNeg).toNatClampNeg) (pI (pI (pI s r40.1 ((3 : Int32) * v8).toNatClampNeg (gI s r37.1 v8.toNatClampNeg)) r43.1 (((3 : Int32) * v8) + (1 : Int32)).toNatClampNeg q45) r48.1 (((3 : Int32) * v8) + (2 : Int32)).toNatClampNeg (gI (pI (pI s r40.1 ((3 : Int32) * v8).toNatClampNeg (gI s r37.1 v8.toNatClampNeg)) r43.1 (((3 : Int32) * v8) + (1 : Int32)).toNatClampNeg q45) r50.1 (gI s r37.1 v8.toNatClampNeg).toNatClampNeg))) fun q57 =>
    B_X8_book_248 fl n v0 v1 v2 v3 v4 v5 v6 (v8 + (1 : Int32)) q57
def B_X8_book_222 (k181 : Nat → Int32 → Int32 → Int32 → Int32 → Mem → Option (Int32 × Mem)) (fl : Nat) (v0 : Nat) (v1 : Int32) (v2 : Int32) (v3 : Int32) (v8 : Int32) (w0 : Nat) (w1 : Int32) (s : Mem) : Option (Int32 × Mem) :=
  k181 v0 v1 v2 v3 (v8 + (1 : Int32)) (pI s w0 14 w1)
def B_X8_book_181 (fl : Nat) : Nat → Nat → Int32 → Int32 → Int32 → Int32 → Mem → Option (Int32 × Mem)
  | 0 => fun _ _ _ _ _ _ => none
  | n + 1 => fun v0 v1 v2 v3 v8 s =>
    bd (ldA s v0 1 0) fun r59 =>
    gd (inR (0 : Int32) r59.2) <|
    if (gI s r59.1 (0 : Int32).toNatClampNeg) ≤ v8 then (
      some ((0 : Int32), s))
    else
    bd (F_X8_obstacleOf fl v0 v1 v2 v3 v8 s) fun q63 =>
    if q63.1 ≤ (gI q63.2 v0 14) then (
      B_X8_book_222 (B_X8_book_181 fl n) fl v0 v1 v2 v3 v8 v0 (gI q63.2 v0 14) q63.2)
    else
    B_X8_book_222 (B_X8_book_181 fl n) fl v0 v1 v2 v3 v8 v0 q63.1 q63.2
def B_X8_book_116 (fl : Nat) (v0 : Nat) (v1 : Int32) (v2 : Int32) (v3 : Int32) (v4 : Int32) (v5 : Int32) (v6 : Int32) (w0 : Nat) (w1 : Int32) (s : Mem) : Option (Int32 × Mem) :=
  if (gI (pI s w0 0 w1) v0 0) = 0 then (
    bd (F_X8_loads fl v0 (-1 : Int32) (pI s w0 0 w1)) fun q67 =>
    bd (F_X8_comes fl v0 v4 v5 v6 q67) fun q69 =>
    bd (F_X8_finds fl v0 v1 v2 v3 q69) fun q71 =>
    if q71.1 = 0 then (
      bd (F_X8_loads fl v0 (-1 : Int32) (pI q71.2 v0 0 (3 : Int32))) fun q76 =>
      bd (F_X8_comes fl v0 v4 v5 v6 q76) fun q78 =>
      B_X8_book_181 fl fl v0 v1 v2 v3 (0 : Int32) (pI q78 v0 14 (1 : Int32)))
    else
    bd (F_X8_keeps fl v0 q71.2) fun q74 =>
    B_X8_book_248 fl fl v0 v1 v2 v3 v4 v5 v6 (0 : Int32) (pI q74 v0 15 (gI q74 v0 11)))
  else
  some ((0 : Int32), (pI s w0 0 w1))
def B_X8_book_88 (fl : Nat) (v0 : Nat) (v1 : Int32) (v2 : Int32) (v3 : Int32) (v4 : Int32) (v5 : Int32) (v6 : Int32) (w0 : Int32) (s : Mem) : Option (Int32 × Mem) :=
  if w0 = 0 then (
    B_X8_book_116 fl v0 v1 v2 v3 v4 v5 v6 v0 (1 : Int32) s)
  else
  bd (ldA s v0 1 0) fun r81 =>
  gd (inR (1 : Int32) r81.2) <|
  if (gI s r81.1 (1 : Int32).toNatClampNeg) = (12 : Int32) then (
    B_X8_book_116 fl v0 v1 v2 v3 v4 v5 v6 v0 (2 : Int32) s)
  else
  B_X8_book_116 fl v0 v1 v2 v3 v4 v5 v6 v0 (0 : Int32) s
def B_X8_book_87 (fl : Nat) (v0 : Nat) (v1 : Int32) (v2 : Int32) (v3 : Int32) (v4 : Int32) (v5 : Int32) (v6 : Int32) (s : Mem) : Option (Int32 × Mem) :=
  B_X8_book_88 fl v0 v1 v2 v3 v4 v5 v6 (0 : Int32) s
def F_X8_book (fl : Nat) (v0 : Nat) (v1 : Int32) (v2 : Int32) (v3 : Int32) (v4 : Int32) (v5 : Int32) (v6 : Int32) (s : Mem) : Option (Int32 × Mem) :=
  bd (F_X8_in fl v1 (0 : Int32) (2 : Int32) s) fun q85 =>
  if q85 = 0 then (
    B_X8_book_87 fl v0 v1 v2 v3 v4 v5 v6 s)
  else
  bd (F_X8_in fl v2 (1 : Int32) (12 : Int32) s) fun q88 =>
  if q88 = 0 then (
    B_X8_book_87 fl v0 v1 v2 v3 v4 v5 v6 s)
  else
  bd (F_X8_in fl v3 (1 : Int32) (12 : Int32) s) fun q91 =>
  if q91 = 0 then (
    B_X8_book_87 fl v0 v1 v2 v3 v4 v5 v6 s)
  else
  bd (F_X8_in fl v4 (0 : Int32) (16 : Int32) s) fun q94 =>
  if q94 = 0 then (
    B_X8_book_87 fl v0 v1 v2 v3 v4 v5 v6 s)
  else
  bd (F_X8_isNight fl v5 s) fun q97 =>
  if q97 = 0 then (
    B_X8_book_87 fl v0 v1 v2 v3 v4 v5 v6 s)
  else
  bd (ldA s v0 1 0) fun r100 =>
  gd (inR (3 : Int32) r100.2) <|
  if v5 < (gI s r100.1 (3 : Int32).toNatClampNeg) then (
    B_X8_book_87 fl v0 v1 v2 v3 v4 v5 v6 s)
  else
  bd (F_X8_in fl v6 (1 : Int32) (14 : Int32) s) fun q104 =>
  if q104 = 0 then (
    B_X8_book_87 fl v0 v1 v2 v3 v4 v5 v6 s)
  else
  bd (F_X8_isNight fl ((v5 + v6) - (1 : Int32)) s) fun q107 =>
  if q107 = 0 then (
    B_X8_book_87 fl v0 v1 v2 v3 v4 v5 v6 s)
  else
  B_X8_book_88 fl v0 v1 v2 v3 v4 v5 v6 (1 : Int32) s
def B_X8_append_15 (fl : Nat) (v0 : Nat) (v1 : Int32) (w0 : Nat) (w1 : Int32) (s : Mem) : Option Mem :=
  if (gI (pI s w0 0 w1) v0 0) = 0 then (
    bd (ldA (pI s w0 0 w1) v0 17 2) fun r2 =>
    gd (inR (gI (pI s w0 0 w1) v0 18) r2.2) <|
    some (pI (pI (pI s w0 0 w1) r2.1 (gI (pI s w0 0 w1) v0 18).toNatClampNeg (vp_nar .char v1)) v0 18 ((gI (pI (pI s w0 0 w1) r2.1 (gI (pI s w0 0 w1) v0 18).toNatClampNeg (vp_nar .char v1)) v0 18) + (1 : Int32))))
  else
  some (pI s w0 0 w1)
def F_X8_append (fl : Nat) (v0 : Nat) (v1 : Int32) (s : Mem) : Option Mem :=
  if (gI s v0 18) = (30 : Int32) then (
    B_X8_append_15 fl v0 v1 v0 (1 : Int32) s)
  else
  B_X8_append_15 fl v0 v1 v0 (0 : Int32) s
def F_X8_here (fl : Nat) (v0 : Nat) (s : Mem) : Option Int32 :=
  if (gI s v0 18) ≤ (gI s v0 19) then (
    gd (vp_nar .char (0 : Int32) = (0 : Int32)) <|
    some (0 : Int32))
  else
  bd (ldA s v0 17 2) fun r3 =>
  gd (inR (gI s v0 19) r3.2) <|
  gd (vp_nar .char (gI s r3.1 (gI s v0 19).toNatClampNeg) = (gI s r3.1 (gI s v0 19).toNatClampNeg)) <|
  some (gI s r3.1 (gI s v0 19).toNatClampNeg)
def F_X8_isDigit (fl : Nat) (v0 : Nat) (s : Mem) : Option Int32 :=
  if (gI s v0 18) ≤ (gI s v0 19) then (
    some (0 : Int32))
  else
  bd (F_X8_here fl v0 s) fun q2 =>
  bd (F_X8_in fl q2 (48 : Int32) (57 : Int32) s) fun q4 =>
  if q4 = 0 then (
    some (0 : Int32))
  else
  some (1 : Int32)
def F_X8_wants (fl : Nat) (v0 : Nat) (v1 : Int32) (s : Mem) : Option Mem :=
  if (gI s v0 20) < 0 then (
    if (gI s v0 19) = (gI s v0 18) then (
      some (pI s v0 20 (gI s v0 19)))
    else
    bd (F_X8_here fl v0 s) fun q3 =>
    if q3 = v1 then (
      some (pI s v0 19 ((gI s v0 19) + (1 : Int32))))
    else
    some (pI s v0 20 (gI s v0 19)))
  else
  some s
def B_X8_number_22 (fl : Nat) (v0 : Nat) (s : Mem) : Option (Int32 × Mem) :=
  if (gI s v0 20) < 0 then (
    bd (F_X8_here fl v0 s) fun q2 =>
    if (q2 - (48 : Int32)) = 0 then (
      some ((q2 - (48 : Int32)), (pI s v0 19 ((gI s v0 19) + (1 : Int32)))))
    else
    bd (F_X8_isDigit fl v0 (pI s v0 19 ((gI s v0 19) + (1 : Int32)))) fun q5 =>
    if q5 = 0 then (
      some ((q2 - (48 : Int32)), (pI s v0 19 ((gI s v0 19) + (1 : Int32)))))
    else
    bd (F_X8_here fl v0 (pI s v0 19 ((gI s v0 19) + (1 : Int32)))) fun q8 =>
    some (((((10 : Int32) * (q2 - (48 : Int32))) + q8) - (48 : Int32)), (pI (pI s v0 19 ((gI s v0 19) + (1 : Int32))) v0 19 ((gI (pI s v0 19 ((gI s v0 19) + (1 : Int32))) v0 19) + (1 : Int32)))))
  else
  some ((0 : Int32), s)
def F_X8_number (fl : Nat) (v0 : Nat) (s : Mem) : Option (Int32 × Mem) :=
  if 0 ≤ (gI s v0 20) then (
    B_X8_number_22 fl v0 s)
  else
  bd (F_X8_isDigit fl v0 s) fun q11 =>
  if q11 = 0 then (
    B_X8_number_22 fl v0 (pI s v0 20 (gI s v0 19)))
  else
  B_X8_number_22 fl v0 s
def B_X8_readBooking_190 (fl : Nat) (v0 : Nat) (v2 : Int32) (v3 : Int32) (v4 : Int32) (v5 : Int32) (v6 : Int32) (v7 : Int32) (s : Mem) : Option (Int32 × Mem) :=
  if (gI (pI (pI s v0 18 (0 : Int32)) v0 21 (gI (pI s v0 18 (0 : Int32)) v0 20)) v0 20) < 0 then (
    bd (F_X8_book fl v0 v2 v3 v4 v7 v5 v6 (pI (pI s v0 18 (0 : Int32)) v0 21 (gI (pI s v0 18 (0 : Int32)) v0 20))) fun q2 =>
    some (q2.1, q2.2))
  else
  some ((0 : Int32), (pI (pI (pI s v0 18 (0 : Int32)) v0 21 (gI (pI s v0 18 (0 : Int32)) v0 20)) v0 0 (1 : Int32)))
def B_X8_readBooking_164 (fl : Nat) (v0 : Nat) (v2 : Int32) (v3 : Int32) (v4 : Int32) (v5 : Int32) (v6 : Int32) (v7 : Int32) (s : Mem) : Option (Int32 × Mem) :=
  if 0 ≤ (gI s v0 20) then (
    B_X8_readBooking_190 fl v0 v2 v3 v4 v5 v6 v7 s)
  else
  if (gI s v0 18) ≤ (gI s v0 19) then (
    B_X8_readBooking_190 fl v0 v2 v3 v4 v5 v6 v7 s)
  else
  B_X8_readBooking_190 fl v0 v2 v3 v4 v5 v6 v7 (pI s v0 20 (gI s v0 19))
def B_X8_readBooking_67 (fl : Nat) (v0 : Nat) (v2 : Int32) (s : Mem) : Option (Int32 × Mem) :=
  bd (F_X8_number fl v0 (pI s v0 19 ((gI s v0 19) + (1 : Int32)))) fun q6 =>
  bd (F_X8_wants fl v0 (120 : Int32) q6.2) fun q8 =>
  bd (F_X8_number fl v0 q8) fun q10 =>
  bd (F_X8_wants fl v0 (64 : Int32) q10.2) fun q12 =>
  bd (F_X8_number fl v0 q12) fun q14 =>
  bd (F_X8_wants fl v0 (43 : Int32) q14.2) fun q16 =>
  bd (F_X8_number fl v0 q16) fun q18 =>
  if 0 ≤ (gI q18.2 v0 20) then (
    B_X8_readBooking_164 fl v0 v2 q6.1 q10.1 q14.1 q18.1 (0 : Int32) q18.2)
  else
  if (gI q18.2 v0 18) ≤ (gI q18.2 v0 19) then (
    B_X8_readBooking_164 fl v0 v2 q6.1 q10.1 q14.1 q18.1 (0 : Int32) q18.2)
  else
  bd (F_X8_here fl v0 q18.2) fun q22 =>
  if q22 = (112 : Int32) then (
    bd (F_X8_number fl v0 (pI q18.2 v0 19 ((gI q18.2 v0 19) + (1 : Int32)))) fun q25 =>
    B_X8_readBooking_164 fl v0 v2 q6.1 q10.1 q14.1 q18.1 q25.1 q25.2)
  else
  B_X8_readBooking_164 fl v0 v2 q6.1 q10.1 q14.1 q18.1 (0 : Int32) q18.2
def B_X8_readBooking_57 (fl : Nat) (v0 : Nat) (w0 : Int32) (s : Mem) : Option (Int32 × Mem) :=
  if 0 ≤ w0 then (
    B_X8_readBooking_67 fl v0 w0 s)
  else
  B_X8_readBooking_67 fl v0 w0 (pI s v0 20 (0 : Int32))
def F_X8_readBooking (fl : Nat) (v0 : Nat) (s : Mem) : Option (Int32 × Mem) :=
  bd (F_X8_here fl v0 (pI (pI s v0 19 (0 : Int32)) v0 20 (-1 : Int32))) fun q28 =>
  if (gI (pI (pI s v0 19 (0 : Int32)) v0 20 (-1 : Int32)) v0 18) = 0 then (
    B_X8_readBooking_57 fl v0 (-1 : Int32) (pI (pI s v0 19 (0 : Int32)) v0 20 (-1 : Int32)))
  else
  if q28 = (116 : Int32) then (
    B_X8_readBooking_57 fl v0 (0 : Int32) (pI (pI s v0 19 (0 : Int32)) v0 20 (-1 : Int32)))
  else
  if q28 = (99 : Int32) then (
    B_X8_readBooking_57 fl v0 (1 : Int32) (pI (pI s v0 19 (0 : Int32)) v0 20 (-1 : Int32)))
  else
  if q28 = (109 : Int32) then (
    B_X8_readBooking_57 fl v0 (2 : Int32) (pI (pI s v0 19 (0 : Int32)) v0 20 (-1 : Int32)))
  else
  B_X8_readBooking_57 fl v0 (-1 : Int32) (pI (pI s v0 19 (0 : Int32)) v0 20 (-1 : Int32))
def F_X8_faultPosition (fl : Nat) (v0 : Nat) (s : Mem) : Option (Int32 × Mem) :=
  some ((gI (pI s v0 0 (0 : Int32)) v0 21), (pI s v0 0 (0 : Int32)))
def F_X8_refusal (fl : Nat) (v0 : Nat) (s : Mem) : Option (Int32 × Mem) :=
  if (gI s v0 14) = 0 then (
    some ((gI (pI s v0 0 (1 : Int32)) v0 14), (pI s v0 0 (1 : Int32))))
  else
  some ((gI (pI s v0 0 (0 : Int32)) v0 14), (pI s v0 0 (0 : Int32)))
def B_X8_party_28 (fl : Nat) (v0 : Nat) (v1 : Int32) (v2 : Int32) (w0 : Nat) (w1 : Int32) (s : Mem) : Option (Int32 × Mem) :=
  if (gI (pI s w0 0 w1) v0 0) = 0 then (
    bd (F_X8_of fl v0 v1 v2 (pI s w0 0 w1)) fun q2 =>
    some (q2, (pI s w0 0 w1)))
  else
  some ((0 : Int32), (pI s w0 0 w1))
def F_X8_party (fl : Nat) (v0 : Nat) (v1 : Int32) (v2 : Int32) (s : Mem) : Option (Int32 × Mem) :=
  bd (F_X8_isParty fl v0 v1 s) fun q4 =>
  if q4 = 0 then (
    B_X8_party_28 fl v0 v1 v2 v0 (1 : Int32) s)
  else
  bd (F_X8_in fl v2 (0 : Int32) (9 : Int32) s) fun q7 =>
  if q7 = 0 then (
    B_X8_party_28 fl v0 v1 v2 v0 (2 : Int32) s)
  else
  B_X8_party_28 fl v0 v1 v2 v0 (0 : Int32) s
def F_X8_moves (fl : Nat) (v0 : Nat) (s : Mem) : Option (Int32 × Mem) :=
  some ((gI (pI s v0 0 (0 : Int32)) v0 15), (pI s v0 0 (0 : Int32)))
def B_X8_moveOf_33 (fl : Nat) (v0 : Nat) (v1 : Int32) (v2 : Int32) (w0 : Nat) (w1 : Int32) (s : Mem) : Option (Int32 × Mem) :=
  if (gI (pI s w0 0 w1) v0 0) = 0 then (
    bd (ldA (pI s w0 0 w1) v0 16 0) fun r2 =>
    gd (inR (((3 : Int32) * v1) + v2) r2.2) <|
    some ((gI (pI s w0 0 w1) r2.1 (((3 : Int32) * v1) + v2).toNatClampNeg), (pI s w0 0 w1)))
  else
  some ((0 : Int32), (pI s w0 0 w1))
def F_X8_moveOf (fl : Nat) (v0 : Nat) (v1 : Int32) (v2 : Int32) (s : Mem) : Option (Int32 × Mem) :=
  bd (F_X8_in fl v1 (0 : Int32) ((gI s v0 15) - (1 : Int32)) s) fun q5 =>
  if q5 = 0 then (
    B_X8_moveOf_33 fl v0 v1 v2 v0 (1 : Int32) s)
  else
  bd (F_X8_in fl v2 (0 : Int32) (2 : Int32) s) fun q8 =>
  if q8 = 0 then (
    B_X8_moveOf_33 fl v0 v1 v2 v0 (2 : Int32) s)
  else
  B_X8_moveOf_33 fl v0 v1 v2 v0 (0 : Int32) s
def F_X8_isAhead (fl : Nat) (v0 : Nat) (v1 : Int32) (s : Mem) : Option Int32 :=
  bd (F_X8_of fl v0 v1 (8 : Int32) s) fun q1 =>
  if q1 = (1 : Int32) then (
    bd (F_X8_of fl v0 v1 (4 : Int32) s) fun q4 =>
    bd (ldA s v0 1 0) fun r6 =>
    gd (inR (3 : Int32) r6.2) <|
    if q4 < (gI s r6.1 (3 : Int32).toNatClampNeg) then (
      some (0 : Int32))
    else
    some (1 : Int32))
  else
  some (0 : Int32)
def F_X8_comesAs (fl : Nat) (v0 : Nat) (v1 : Int32) (s : Mem) : Option Mem :=
  bd (F_X8_loads fl v0 v1 s) fun q1 =>
  bd (F_X8_of fl v0 v1 (3 : Int32) q1) fun q3 =>
  bd (F_X8_of fl v0 v1 (4 : Int32) q1) fun q5 =>
  bd (F_X8_of fl v0 v1 (5 : Int32) q1) fun q7 =>
  bd (F_X8_comes fl v0 q3 q5 q7 q1) fun q9 =>
  some q9
def B_X8_move_99 (fl : Nat) (v0 : Nat) (v1 : Int32) (v2 : Int32) (w0 : Nat) (w1 : Int32) (s : Mem) : Option (Int32 × Mem) :=
  if (gI (pI s w0 0 w1) v0 0) = 0 then (
    bd (F_X8_keeps fl v0 (pI s w0 0 w1)) fun q2 =>
    bd (F_X8_of fl v0 v1 (6 : Int32) q2) fun q4 =>
    bd (F_X8_lays fl v0 v1 (6 : Int32) v2 q2) fun q6 =>
    some (q4, q6))
  else
  some ((0 : Int32), (pI s w0 0 w1))
def B_X8_move_45 (fl : Nat) (v0 : Nat) (v1 : Int32) (v2 : Int32) (w0 : Nat) (w1 : Int32) (s : Mem) : Option (Int32 × Mem) :=
  if (gI (pI s w0 0 w1) v0 0) = 0 then (
    bd (F_X8_comesAs fl v0 v1 (pI s w0 0 w1)) fun q9 =>
    bd (F_X8_of fl v0 v1 (0 : Int32) q9) fun q11 =>
    bd (F_X8_of fl v0 v1 (1 : Int32) q9) fun q13 =>
    bd (F_X8_of fl v0 v1 (2 : Int32) q9) fun q15 =>
    bd (F_X8_obstacleOf fl v0 q11 q13 q15 v2 q9) fun q17 =>
    bd (F_X8_in fl q17.1 (1 : Int32) (3 : Int32) q17.2) fun q19 =>
    if q19 = 0 then (
      B_X8_move_99 fl v0 v1 v2 v0 (0 : Int32) q17.2)
    else
    B_X8_move_99 fl v0 v1 v2 v0 (3 : Int32) q17.2)
  else
  some ((0 : Int32), (pI s w0 0 w1))
def B_X8_move_40 (fl : Nat) (v0 : Nat) (v1 : Int32) (v2 : Int32) (w0 : Nat) (s : Mem) : Option (Int32 × Mem) :=
  B_X8_move_45 fl v0 v1 v2 w0 (2 : Int32) s
def B_X8_move_17 (fl : Nat) (v0 : Nat) (v1 : Int32) (v2 : Int32) (w0 : Nat) (s : Mem) : Option (Int32 × Mem) :=
  B_X8_move_45 fl v0 v1 v2 w0 (1 : Int32) s
def F_X8_move (fl : Nat) (v0 : Nat) (v1 : Int32) (v2 : Int32) (s : Mem) : Option (Int32 × Mem) :=
  bd (F_X8_isParty fl v0 v1 s) fun q22 =>
  if q22 = 0 then (
    B_X8_move_17 fl v0 v1 v2 v0 s)
  else
  bd (F_X8_isPitch fl v0 v2 s) fun q25 =>
  if q25 = 0 then (
    B_X8_move_17 fl v0 v1 v2 v0 s)
  else
  bd (F_X8_isAhead fl v0 v1 s) fun q28 =>
  if q28 = 0 then (
    B_X8_move_40 fl v0 v1 v2 v0 s)
  else
  bd (F_X8_of fl v0 v1 (6 : Int32) s) fun q31 =>
  if q31 = v2 then (
    B_X8_move_40 fl v0 v1 v2 v0 s)
  else
  B_X8_move_45 fl v0 v1 v2 v0 (0 : Int32) s
def B_X8_cancel_86 (fl : Nat) (v0 : Nat) (v1 : Int32) (w0 : Int32) (s : Mem) : Option (Int32 × Mem) :=
  bd (F_X8_lays fl v0 v1 (8 : Int32) (0 : Int32) s) fun q1 =>
  bd (F_X8_lays fl v0 v1 (9 : Int32) w0 q1) fun q3 =>
  some (w0, q3)
def B_X8_cancel_26 (fl : Nat) (v0 : Nat) (v1 : Int32) (w0 : Nat) (w1 : Int32) (s : Mem) : Option (Int32 × Mem) :=
  if (gI (pI s w0 0 w1) v0 0) = 0 then (
    bd (F_X8_keeps fl v0 (pI s w0 0 w1)) fun q6 =>
    bd (F_X8_of fl v0 v1 (4 : Int32) q6) fun q8 =>
    bd (ldA q6 v0 1 0) fun r10 =>
    gd (inR (3 : Int32) r10.2) <|
    bd (F_X8_of fl v0 v1 (7 : Int32) q6) fun q13 =>
    if (q8 - (gI q6 r10.1 (3 : Int32).toNatClampNeg)) ≤ (6 : Int32) then (
      if (q8 - (gI q6 r10.1 (3 : Int32).toNatClampNeg)) ≤ (2 : Int32) then (
        B_X8_cancel_86 fl v0 v1 q13 q6)
      else
      B_X8_cancel_86 fl v0 v1 (q13 / (2 : Int32)) q6)
    else
    B_X8_cancel_86 fl v0 v1 (0 : Int32) q6)
  else
  some ((0 : Int32), (pI s w0 0 w1))
def F_X8_cancel (fl : Nat) (v0 : Nat) (v1 : Int32) (s : Mem) : Option (Int32 × Mem) :=
  bd (F_X8_isParty fl v0 v1 s) fun q17 =>
  if q17 = 0 then (
    B_X8_cancel_26 fl v0 v1 v0 (1 : Int32) s)
  else
  bd (F_X8_isAhead fl v0 v1 s) fun q20 =>
  if q20 = 0 then (
    B_X8_cancel_26 fl v0 v1 v0 (2 : Int32) s)
  else
  B_X8_cancel_26 fl v0 v1 v0 (0 : Int32) s
def B_X8_advance_98 (k43 : Nat → Int32 → Int32 → Int32 → Mem → Option (Int32 × Mem)) (fl : Nat) (v0 : Nat) (v1 : Int32) (v3 : Int32) (w0 : Int32) (w1 : Int32) (s : Mem) : Option (Int32 × Mem) :=
  k43 v0 v1 (w0 + w1) (v3 + (1 : Int32)) s
def B_X8_advance_97 (k43 : Nat → Int32 → Int32 → Int32 → Mem → Option (Int32 × Mem)) (fl : Nat) (v0 : Nat) (v1 : Int32) (v3 : Int32) (w0 : Int32) (s : Mem) : Option (Int32 × Mem) :=
  B_X8_advance_98 k43 fl v0 v1 v3 w0 (0 : Int32) s
def B_X8_advance_43 (fl : Nat) : Nat → Nat → Int32 → Int32 → Int32 → Mem → Option (Int32 × Mem)
  | 0 => fun _ _ _ _ _ => none
  | n + 1 => fun v0 v1 v2 v3 s =>
    bd (ldA s v0 1 0) fun r1 =>
    gd (inR (1 : Int32) r1.2) <|
    if (gI s r1.1 (1 : Int32).toNatClampNeg) ≤ v3 then (
      bd (ldA s v0 1 0) fun r5 =>
      gd (inR (3 : Int32) r5.2) <|
      gd (inR (3 : Int32) r5.2) <|
      some (v2, (pI s r5.1 (3 : Int32).toNatClampNeg ((gI s r5.1 (3 : Int32).toNatClampNeg) + v1))))
    else
    bd (F_X8_of fl v0 v3 (8 : Int32) s) fun q9 =>
    if q9 = (1 : Int32) then (
      bd (F_X8_of fl v0 v3 (4 : Int32) s) fun q12 =>
      bd (ldA s v0 1 0) fun r14 =>
      gd (inR (3 : Int32) r14.2) <|
      bd (ldA s v0 1 0) fun r17 =>
      gd (inR (3 : Int32) r17.2) <|
      bd (F_X8_in fl q12 (gI s r14.1 (3 : Int32).toNatClampNeg) (((gI s r17.1 (3 : Int32).toNatClampNeg) + v1) - (1 : Int32)) s) fun q20 =>
      if q20 = 0 then (
        B_X8_advance_97 (B_X8_advance_43 fl n) fl v0 v1 v3 v2 s)
      else
      B_X8_advance_98 (B_X8_advance_43 fl n) fl v0 v1 v3 v2 (1 : Int32) s)
    else
    B_X8_advance_97 (B_X8_advance_43 fl n) fl v0 v1 v3 v2 s
def B_X8_advance_23 (fl : Nat) (v0 : Nat) (v1 : Int32) (w0 : Nat) (w1 : Int32) (s : Mem) : Option (Int32 × Mem) :=
  if (gI (pI s w0 0 w1) v0 0) = 0 then (
    bd (F_X8_keeps fl v0 (pI s w0 0 w1)) fun q24 =>
    B_X8_advance_43 fl fl v0 v1 (0 : Int32) (0 : Int32) q24)
  else
  some ((0 : Int32), (pI s w0 0 w1))
def F_X8_advance (fl : Nat) (v0 : Nat) (v1 : Int32) (s : Mem) : Option (Int32 × Mem) :=
  bd (ldA s v0 1 0) fun r26 =>
  gd (inR (3 : Int32) r26.2) <|
  bd (F_X8_in fl v1 (0 : Int32) ((60 : Int32) - (gI s r26.1 (3 : Int32).toNatClampNeg)) s) fun q29 =>
  if q29 = 0 then (
    B_X8_advance_23 fl v0 v1 v0 (1 : Int32) s)
  else
  B_X8_advance_23 fl v0 v1 v0 (0 : Int32) s
def F_X8_tonight (fl : Nat) (v0 : Nat) (s : Mem) : Option (Int32 × Mem) :=
  bd (ldA (pI s v0 0 (0 : Int32)) v0 1 0) fun r1 =>
  gd (inR (3 : Int32) r1.2) <|
  some ((gI (pI s v0 0 (0 : Int32)) r1.1 (3 : Int32).toNatClampNeg), (pI s v0 0 (0 : Int32)))
def B_X8_obstacle_22 (fl : Nat) (v0 : Nat) (v1 : Int32) (v2 : Int32) (w0 : Nat) (w1 : Int32) (s : Mem) : Option (Int32 × Mem) :=
  if (gI (pI s w0 0 w1) v0 0) = 0 then (
    bd (F_X8_comesAs fl v0 v1 (pI s w0 0 w1)) fun q2 =>
    bd (F_X8_of fl v0 v1 (0 : Int32) q2) fun q4 =>
    bd (F_X8_of fl v0 v1 (1 : Int32) q2) fun q6 =>
    bd (F_X8_of fl v0 v1 (2 : Int32) q2) fun q8 =>
    bd (F_X8_obstacleOf fl v0 q4 q6 q8 v2 q2) fun q10 =>
    some (q10.1, q10.2))
  else
  some ((0 : Int32), (pI s w0 0 w1))
def B_X8_obstacle_21 (fl : Nat) (v0 : Nat) (v1 : Int32) (v2 : Int32) (w0 : Nat) (s : Mem) : Option (Int32 × Mem) :=
  B_X8_obstacle_22 fl v0 v1 v2 w0 (1 : Int32) s
def F_X8_obstacle (fl : Nat) (v0 : Nat) (v1 : Int32) (v2 : Int32) (s : Mem) : Option (Int32 × Mem) :=
  bd (F_X8_isParty fl v0 v1 s) fun q12 =>
  if q12 = 0 then (
    B_X8_obstacle_21 fl v0 v1 v2 v0 s)
  else
  bd (F_X8_isPitch fl v0 v2 s) fun q15 =>
  if q15 = 0 then (
    B_X8_obstacle_21 fl v0 v1 v2 v0 s)
  else
  B_X8_obstacle_22 fl v0 v1 v2 v0 (0 : Int32) s
def B_X8_occupant_86 (k40 : Nat → Int32 → Int32 → Int32 → Mem → Option (Int32 × Mem)) (fl : Nat) (v0 : Nat) (v1 : Int32) (v2 : Int32) (v3 : Int32) (s : Mem) : Option (Int32 × Mem) :=
  k40 v0 v1 v2 (v3 + (1 : Int32)) s
def B_X8_occupant_40 (fl : Nat) : Nat → Nat → Int32 → Int32 → Int32 → Mem → Option (Int32 × Mem)
  | 0 => fun _ _ _ _ _ => none
  | n + 1 => fun v0 v1 v2 v3 s =>
    if (12 : Int32) ≤ v3 then (
      some ((-1 : Int32), s))
    else
    bd (ldA s v0 4 0) fun r2 =>
    gd (inR v3 r2.2) <|
    if (gI s r2.1 v3.toNatClampNeg) = v1 then (
      bd (ldA s v0 5 0) fun r6 =>
      gd (inR v3 r6.2) <|
      bd (ldA s v0 5 0) fun r9 =>
      gd (inR v3 r9.2) <|
      bd (ldA s v0 6 0) fun r12 =>
      gd (inR v3 r12.2) <|
      bd (F_X8_in fl v2 (gI s r6.1 v3.toNatClampNeg) (((gI s r9.1 v3.toNatClampNeg) + (gI s r12.1 v3.toNatClampNeg)) - (1 : Int32)) s) fun q15 =>
      if q15 = 0 then (
        B_X8_occupant_86 (B_X8_occupant_40 fl n) fl v0 v1 v2 v3 s)
      else
      some (v3, s))
    else
    B_X8_occupant_86 (B_X8_occupant_40 fl n) fl v0 v1 v2 v3 s
def B_X8_occupant_21 (fl : Nat) (v0 : Nat) (v1 : Int32) (v2 : Int32) (w0 : Nat) (w1 : Int32) (s : Mem) : Option (Int32 × Mem) :=
  if (gI (pI s w0 0 w1) v0 0) = 0 then (
    bd (F_X8_loads fl v0 (-1 : Int32) (pI s w0 0 w1)) fun q19 =>
    B_X8_occupant_40 fl fl v0 v1 v2 (0 : Int32) q19)
  else
  some ((0 : Int32), (pI s w0 0 w1))
def B_X8_occupant_20 (fl : Nat) (v0 : Nat) (v1 : Int32) (v2 : Int32) (w0 : Nat) (s : Mem) : Option (Int32 × Mem) :=
  B_X8_occupant_21 fl v0 v1 v2 w0 (1 : Int32) s
def F_X8_occupant (fl : Nat) (v0 : Nat) (v1 : Int32) (v2 : Int32) (s : Mem) : Option (Int32 × Mem) :=
  bd (F_X8_isPitch fl v0 v1 s) fun q21 =>
  if q21 = 0 then (
    B_X8_occupant_20 fl v0 v1 v2 v0 s)
  else
  bd (F_X8_isNight fl v2 s) fun q24 =>
  if q24 = 0 then (
    B_X8_occupant_20 fl v0 v1 v2 v0 s)
  else
  B_X8_occupant_21 fl v0 v1 v2 v0 (0 : Int32) s
def B_X8_busyNight_75 (k43 : Nat → Int64 → Int32 → Int32 → Mem → Option (Int32 × Mem)) (fl : Nat) (v0 : Nat) (v3 : Int64) (v5 : Int32) (v6 : Int32) (s : Mem) : Option (Int32 × Mem) :=
  k43 v0 v3 v5 (v6 + (1 : Int32)) s
def B_X8_busyNight_43 (fl : Nat) : Nat → Nat → Int64 → Int32 → Int32 → Mem → Option (Int32 × Mem)
  | 0 => fun _ _ _ _ _ => none
  | n + 1 => fun v0 v3 v5 v6 s =>
    if (60 : Int32) ≤ v6 then (
      some ((0 : Int32), (pI s v0 0 (2 : Int32))))
    else
    if (lg_cmp ((v3 >>> (Int32.toInt64 v6 &&& 63)) &&& (1 : Int64)) (0 : Int64)) = 0 then (
      B_X8_busyNight_75 (B_X8_busyNight_43 fl n) fl v0 v3 v5 v6 s)
    else
    if v5 = 0 then (
      some (v6, s))
    else
    B_X8_busyNight_75 (B_X8_busyNight_43 fl n) fl v0 v3 (v5 + (-1 : Int32)) v6 s
def B_X8_busyNight_14 (fl : Nat) (v0 : Nat) (v1 : Int32) (v2 : Int32) (w0 : Nat) (w1 : Int32) (s : Mem) : Option (Int32 × Mem) :=
  if (gI (pI s w0 0 w1) v0 0) = 0 then (
    bd (F_X8_loads fl v0 (-1 : Int32) (pI s w0 0 w1)) fun q5 =>
    bd (F_X8_maskOf fl v0 v1 q5) fun q7 =>
    B_X8_busyNight_43 fl fl v0 q7 v2 (0 : Int32) q5)
  else
  some ((0 : Int32), (pI s w0 0 w1))
def F_X8_busyNight (fl : Nat) (v0 : Nat) (v1 : Int32) (v2 : Int32) (s : Mem) : Option (Int32 × Mem) :=
  bd (F_X8_isPitch fl v0 v1 s) fun q9 =>
  if q9 = 0 then (
    B_X8_busyNight_14 fl v0 v1 v2 v0 (1 : Int32) s)
  else
  B_X8_busyNight_14 fl v0 v1 v2 v0 (0 : Int32) s
def B_X8_firstFree_62 (fl : Nat) : Nat → Nat → Int32 → Int64 → Int32 → Mem → Option (Int32 × Mem)
  | 0 => fun _ _ _ _ _ => none
  | n + 1 => fun v0 v3 v4 v6 s =>
    if (60 : Int32) < (v6 + v3) then (
      some ((0 : Int32), (pI s v0 0 (3 : Int32))))
    else
    bd (F_X8_mask fl v6 v3 s) fun q2 =>
    if (lg_cmp (v4 &&& q2) (0 : Int64)) = 0 then (
      some (v6, s))
    else
    B_X8_firstFree_62 fl n v0 v3 v4 (v6 + (1 : Int32)) s
def B_X8_firstFree_35 (fl : Nat) (v0 : Nat) (v1 : Int32) (v2 : Int32) (v3 : Int32) (w0 : Nat) (w1 : Int32) (s : Mem) : Option (Int32 × Mem) :=
  if (gI (pI s w0 0 w1) v0 0) = 0 then (
    bd (F_X8_loads fl v0 (-1 : Int32) (pI s w0 0 w1)) fun q6 =>
    bd (F_X8_maskOf fl v0 v1 q6) fun q8 =>
    B_X8_firstFree_62 fl fl v0 v3 q8 v2 q6)
  else
  some ((0 : Int32), (pI s w0 0 w1))
def B_X8_firstFree_34 (fl : Nat) (v0 : Nat) (v1 : Int32) (v2 : Int32) (v3 : Int32) (w0 : Nat) (s : Mem) : Option (Int32 × Mem) :=
  B_X8_firstFree_35 fl v0 v1 v2 v3 w0 (2 : Int32) s
def F_X8_firstFree (fl : Nat) (v0 : Nat) (v1 : Int32) (v2 : Int32) (v3 : Int32) (s : Mem) : Option (Int32 × Mem) :=
  bd (F_X8_isPitch fl v0 v1 s) fun q10 =>
  if q10 = 0 then (
    B_X8_firstFree_35 fl v0 v1 v2 v3 v0 (1 : Int32) s)
  else
  bd (F_X8_isNight fl v2 s) fun q13 =>
  if q13 = 0 then (
    B_X8_firstFree_34 fl v0 v1 v2 v3 v0 s)
  else
  bd (F_X8_in fl v3 (1 : Int32) (14 : Int32) s) fun q16 =>
  if q16 = 0 then (
    B_X8_firstFree_34 fl v0 v1 v2 v3 v0 s)
  else
  B_X8_firstFree_35 fl v0 v1 v2 v3 v0 (0 : Int32) s
def B_X8_power_20 (fl : Nat) (v0 : Nat) (v1 : Int32) (v2 : Int32) (w0 : Nat) (w1 : Int32) (s : Mem) : Option (Int32 × Mem) :=
  if (gI (pI s w0 0 w1) v0 0) = 0 then (
    bd (F_X8_loads fl v0 (-1 : Int32) (pI s w0 0 w1)) fun q2 =>
    bd (F_X8_powerAt fl v0 v1 v2 q2) fun q4 =>
    some (q4, q2))
  else
  some ((0 : Int32), (pI s w0 0 w1))
def B_X8_power_19 (fl : Nat) (v0 : Nat) (v1 : Int32) (v2 : Int32) (w0 : Nat) (s : Mem) : Option (Int32 × Mem) :=
  B_X8_power_20 fl v0 v1 v2 w0 (1 : Int32) s
def F_X8_power (fl : Nat) (v0 : Nat) (v1 : Int32) (v2 : Int32) (s : Mem) : Option (Int32 × Mem) :=
  bd (F_X8_isCircuit fl v1 s) fun q6 =>
  if q6 = 0 then (
    B_X8_power_19 fl v0 v1 v2 v0 s)
  else
  bd (F_X8_isNight fl v2 s) fun q9 =>
  if q9 = 0 then (
    B_X8_power_19 fl v0 v1 v2 v0 s)
  else
  B_X8_power_20 fl v0 v1 v2 v0 (0 : Int32) s
def B_X8_peak_78 (k37 : Nat → Int32 → Int32 → Int32 → Int32 → Mem → Option (Int32 × Mem)) (fl : Nat) (v0 : Nat) (v1 : Int32) (v3 : Int32) (v4 : Int32) (w0 : Int32) (s : Mem) : Option (Int32 × Mem) :=
  k37 v0 v1 w0 v3 (v4 + (1 : Int32)) s
def B_X8_peak_65 (k37 : Nat → Int32 → Int32 → Int32 → Int32 → Mem → Option (Int32 × Mem)) (fl : Nat) (v0 : Nat) (v1 : Int32) (v2 : Int32) (v4 : Int32) (v5 : Int32) (w0 : Int32) (s : Mem) : Option (Int32 × Mem) :=
  if v5 ≤ v2 then (
    B_X8_peak_78 k37 fl v0 v1 w0 v4 v2 s)
  else
  B_X8_peak_78 k37 fl v0 v1 w0 v4 v5 s
def B_X8_peak_95 (fl : Nat) (v0 : Nat) (v3 : Int32) (w0 : Nat) (w1 : Int32) (s : Mem) : Option (Int32 × Mem) :=
  if (gI (pI s w0 0 w1) v0 0) = 0 then (
    some (v3, (pI s w0 0 w1)))
  else
  some ((0 : Int32), (pI s w0 0 w1))
def B_X8_peak_37 (fl : Nat) : Nat → Nat → Int32 → Int32 → Int32 → Int32 → Mem → Option (Int32 × Mem)
  | 0 => fun _ _ _ _ _ _ => none
  | n + 1 => fun v0 v1 v2 v3 v4 s =>
    if (60 : Int32) ≤ v4 then (
      if v2 = 0 then (
        B_X8_peak_95 fl v0 v3 v0 (2 : Int32) s)
      else
      B_X8_peak_95 fl v0 v3 v0 (0 : Int32) s)
    else
    bd (F_X8_powerAt fl v0 v1 v4 s) fun q5 =>
    if q5 ≤ v2 then (
      B_X8_peak_65 (B_X8_peak_37 fl n) fl v0 v1 v2 v4 q5 v3 s)
    else
    B_X8_peak_65 (B_X8_peak_37 fl n) fl v0 v1 v2 v4 q5 v4 s
def B_X8_peak_13 (fl : Nat) (v0 : Nat) (v1 : Int32) (w0 : Nat) (w1 : Int32) (s : Mem) : Option (Int32 × Mem) :=
  if (gI (pI s w0 0 w1) v0 0) = 0 then (
    bd (F_X8_loads fl v0 (-1 : Int32) (pI s w0 0 w1)) fun q9 =>
    B_X8_peak_37 fl fl v0 v1 (0 : Int32) (0 : Int32) (0 : Int32) q9)
  else
  some ((0 : Int32), (pI s w0 0 w1))
def F_X8_peak (fl : Nat) (v0 : Nat) (v1 : Int32) (s : Mem) : Option (Int32 × Mem) :=
  bd (F_X8_isCircuit fl v1 s) fun q11 =>
  if q11 = 0 then (
    B_X8_peak_13 fl v0 v1 v0 (1 : Int32) s)
  else
  B_X8_peak_13 fl v0 v1 v0 (0 : Int32) s
def B_X8_gap_57 (fl : Nat) (v0 : Nat) (v3 : Int32) (w0 : Nat) (w1 : Int32) (s : Mem) : Option (Int32 × Mem) :=
  if (gI (pI s w0 0 w1) v0 0) = 0 then (
    if v3 = 0 then (
      some ((gI (pI s w0 0 w1) v0 8), (pI s w0 0 w1)))
    else
    some ((gI (pI s w0 0 w1) v0 9), (pI s w0 0 w1)))
  else
  some ((0 : Int32), (pI s w0 0 w1))
def B_X8_gap_14 (fl : Nat) (v0 : Nat) (v1 : Int32) (v2 : Int32) (v3 : Int32) (w0 : Nat) (w1 : Int32) (s : Mem) : Option (Int32 × Mem) :=
  if (gI (pI s w0 0 w1) v0 0) = 0 then (
    bd (F_X8_loads fl v0 (-1 : Int32) (pI s w0 0 w1)) fun q4 =>
    bd (F_X8_maskOf fl v0 v1 q4) fun q6 =>
    bd (F_X8_gaps fl v0 q6 v2 q4) fun q8 =>
    bd (F_X8_in fl v2 (0 : Int32) (q8.1 - (1 : Int32)) q8.2) fun q10 =>
    if q10 = 0 then (
      B_X8_gap_57 fl v0 v3 v0 (2 : Int32) q8.2)
    else
    B_X8_gap_57 fl v0 v3 v0 (0 : Int32) q8.2)
  else
  some ((0 : Int32), (pI s w0 0 w1))
def F_X8_gap (fl : Nat) (v0 : Nat) (v1 : Int32) (v2 : Int32) (v3 : Int32) (s : Mem) : Option (Int32 × Mem) :=
  bd (F_X8_isPitch fl v0 v1 s) fun q13 =>
  if q13 = 0 then (
    B_X8_gap_14 fl v0 v1 v2 v3 v0 (1 : Int32) s)
  else
  B_X8_gap_14 fl v0 v1 v2 v3 v0 (0 : Int32) s
def B_X8_sum_48 (k5 : Nat → Int32 → Int32 → Int32 → Int32 → Option Int32) (fl : Nat) (s : Mem) (v0 : Nat) (v1 : Int32) (v2 : Int32) (v4 : Int32) (w0 : Int32) (w1 : Int32) : Option Int32 :=
  k5 v0 v1 v2 (w0 + w1) (v4 + (1 : Int32))
def B_X8_sum_5 (fl : Nat) (s : Mem) : Nat → Nat → Int32 → Int32 → Int32 → Int32 → Option Int32
  | 0 => fun _ _ _ _ _ => none
  | n + 1 => fun v0 v1 v2 v3 v4 =>
    bd (ldA s v0 1 0) fun r1 =>
    gd (inR (1 : Int32) r1.2) <|
    if (gI s r1.1 (1 : Int32).toNatClampNeg) ≤ v4 then (
      some v3)
    else
    bd (F_X8_of fl v0 v4 (8 : Int32) s) fun q5 =>
    if q5 = v2 then (
      if 0 ≤ v1 then (
        bd (F_X8_of fl v0 v4 v1 s) fun q9 =>
        B_X8_sum_48 (B_X8_sum_5 fl s n) fl s v0 v1 v2 v4 v3 q9)
      else
      B_X8_sum_48 (B_X8_sum_5 fl s n) fl s v0 v1 v2 v4 v3 (1 : Int32))
    else
    B_X8_sum_48 (B_X8_sum_5 fl s n) fl s v0 v1 v2 v4 v3 (0 : Int32)
def F_X8_sum (fl : Nat) (v0 : Nat) (v1 : Int32) (v2 : Int32) (s : Mem) : Option Int32 :=
  B_X8_sum_5 fl s fl v0 v1 v2 (0 : Int32) (0 : Int32)
def B_X8_busyNights_9 (fl : Nat) : Nat → Nat → Int32 → Int32 → Mem → Option (Int32 × Mem)
  | 0 => fun _ _ _ _ => none
  | n + 1 => fun v0 v1 v2 s =>
    bd (ldA s v0 1 0) fun r1 =>
    gd (inR (0 : Int32) r1.2) <|
    if (gI s r1.1 (0 : Int32).toNatClampNeg) ≤ v2 then (
      some (v1, s))
    else
    bd (F_X8_maskOf fl v0 v2 s) fun q5 =>
    bd (F_X8_bits fl q5 s) fun q7 =>
    B_X8_busyNights_9 fl n v0 (v1 + q7) (v2 + (1 : Int32)) s
def F_X8_busyNights (fl : Nat) (v0 : Nat) (s : Mem) : Option (Int32 × Mem) :=
  bd (F_X8_loads fl v0 (-1 : Int32) s) fun q9 =>
  B_X8_busyNights_9 fl fl v0 (0 : Int32) (0 : Int32) q9
def B_X8_account_16 (fl : Nat) (v0 : Nat) (v1 : Int32) (w0 : Nat) (w1 : Int32) (s : Mem) : Option (Int32 × Mem) :=
  if (gI (pI s w0 0 w1) v0 0) = 0 then (
    bd (F_X8_loads fl v0 (-1 : Int32) (pI s w0 0 w1)) fun q2 =>
    if v1 = 0 then (
      bd (ldA q2 v0 1 0) fun r5 =>
      gd (inR (0 : Int32) r5.2) <|
      some ((gI q2 r5.1 (0 : Int32).toNatClampNeg), q2))
    else
    if v1 = 1 then (
      bd (F_X8_sum fl v0 (-1 : Int32) (1 : Int32) q2) fun q9 =>
      some (q9, q2))
    else
    if v1 = 2 then (
      bd (F_X8_sum fl v0 (-1 : Int32) (0 : Int32) q2) fun q12 =>
      some (q12, q2))
    else
    if v1 = 3 then (
      bd (F_X8_sum fl v0 (7 : Int32) (1 : Int32) q2) fun q15 =>
      some (q15, q2))
    else
    if v1 = 4 then (
      bd (F_X8_sum fl v0 (9 : Int32) (0 : Int32) q2) fun q18 =>
      some (q18, q2))
    else
    if v1 = 5 then (
      bd (F_X8_gapsOfAll fl v0 q2) fun q21 =>
      some (q21.1, q21.2))
    else
    if v1 = 6 then (
      bd (F_X8_busyNights fl v0 q2) fun q24 =>
      some (q24.1, q24.2))
    else
    bd (ldA q2 v0 1 0) fun r26 =>
    gd (inR (2 : Int32) r26.2) <|
    some ((gI q2 r26.1 (2 : Int32).toNatClampNeg), q2))
  else
  some ((0 : Int32), (pI s w0 0 w1))
def F_X8_account (fl : Nat) (v0 : Nat) (v1 : Int32) (s : Mem) : Option (Int32 × Mem) :=
  bd (F_X8_in fl v1 (0 : Int32) (7 : Int32) s) fun q29 =>
  if q29 = 0 then (
    B_X8_account_16 fl v0 v1 v0 (1 : Int32) s)
  else
  B_X8_account_16 fl v0 v1 v0 (0 : Int32) s
def B_X8_share_15 (fl : Nat) (v0 : Nat) (w0 : Nat) (w1 : Int32) (s : Mem) : Option (UInt64 × Mem) :=
  if (gI (pI s w0 0 w1) v0 0) = 0 then (
    bd (F_X8_busyNights fl v0 (pI s w0 0 w1)) fun q2 =>
    bd (ldA q2.2 v0 1 0) fun r4 =>
    gd (inR (0 : Int32) r4.2) <|
    gd (nNaN (FP.ddiv (FP.i2d q2.1) (FP.i2d ((60 : Int32) * (gI q2.2 r4.1 (0 : Int32).toNatClampNeg))))) <|
    some ((FP.ddiv (FP.i2d q2.1) (FP.i2d ((60 : Int32) * (gI q2.2 r4.1 (0 : Int32).toNatClampNeg)))), q2.2))
  else
  some (FP.dconst0, (pI s w0 0 w1))
def F_X8_share (fl : Nat) (v0 : Nat) (s : Mem) : Option (UInt64 × Mem) :=
  bd (ldA s v0 1 0) fun r8 =>
  gd (inR (0 : Int32) r8.2) <|
  if (gI s r8.1 (0 : Int32).toNatClampNeg) = 0 then (
    B_X8_share_15 fl v0 v0 (1 : Int32) s)
  else
  B_X8_share_15 fl v0 v0 (0 : Int32) s
def B_X8_undo_13 (fl : Nat) (v0 : Nat) (w0 : Nat) (w1 : Int32) (s : Mem) : Option (Int32 × Mem) :=
  if (gI (pI s w0 0 w1) v0 0) = 0 then (
    bd (F_X8_copies fl v0 (gI (pI s w0 0 w1) v0 2) (0 : Int32) (pI s w0 0 w1)) fun q2 =>
    some ((gI (pI q2 v0 2 ((gI q2 v0 2) - (1 : Int32))) v0 2), (pI q2 v0 2 ((gI q2 v0 2) - (1 : Int32)))))
  else
  some ((0 : Int32), (pI s w0 0 w1))
def F_X8_undo (fl : Nat) (v0 : Nat) (s : Mem) : Option (Int32 × Mem) :=
  if (gI s v0 2) = 0 then (
    B_X8_undo_13 fl v0 v0 (1 : Int32) s)
  else
  B_X8_undo_13 fl v0 v0 (0 : Int32) s
def F_X8_save (fl : Nat) (v0 : Nat) (s : Mem) : Option Mem :=
  bd (F_X8_copies fl v0 (0 : Int32) (9 : Int32) (pI (pI s v0 0 (0 : Int32)) v0 3 (1 : Int32))) fun q1 =>
  some q1
def B_X8_restore_13 (fl : Nat) (v0 : Nat) (w0 : Nat) (w1 : Int32) (s : Mem) : Option Mem :=
  if (gI (pI s w0 0 w1) v0 0) = 0 then (
    bd (F_X8_copies fl v0 (9 : Int32) (0 : Int32) (pI s w0 0 w1)) fun q2 =>
    some (pI q2 v0 2 (0 : Int32)))
  else
  some (pI s w0 0 w1)
def F_X8_restore (fl : Nat) (v0 : Nat) (s : Mem) : Option Mem :=
  if (gI s v0 3) = 0 then (
    B_X8_restore_13 fl v0 v0 (1 : Int32) s)
  else
  B_X8_restore_13 fl v0 v0 (0 : Int32) s
def F_L_addPitch (fl : Nat) (v0 : Nat) (v1 : Int32) (v2 : Int32) (v3 : Int32) (v4 : Int32) (v5 : Nat) (s : Mem) : Option (Int32 × Mem) :=
  bd (F_X7_addPitch fl v0 v1 v2 v3 v4 s) fun q1 =>
  xc q1 (fun e7 s4 =>
    if e7 = 1 then (
      some ((1 : Int32), s4))
    else
    if e7 = 2 then (
      some ((2 : Int32), s4))
    else
    none) fun x3 s4 =>
  bd (aLen v5 1) fun N8 =>
  gd (inR (0 : Int32) N8) <|
  some ((0 : Int32), (pL s4 v5 (0 : Int32).toNatClampNeg (Int32.toInt64 x3)))
def F_L_pitch (fl : Nat) (v0 : Nat) (v1 : Int32) (v2 : Int32) (v3 : Nat) (s : Mem) : Option (Int32 × Mem) :=
  bd (F_X7_pitch fl v0 v1 v2 s) fun q1 =>
  xc q1 (fun e7 s4 =>
    if e7 = 3 then (
      some ((1 : Int32), s4))
    else
    if e7 = 1 then (
      some ((2 : Int32), s4))
    else
    none) fun x3 s4 =>
  bd (aLen v3 1) fun N8 =>
  gd (inR (0 : Int32) N8) <|
  some ((0 : Int32), (pL s4 v3 (0 : Int32).toNatClampNeg (Int32.toInt64 x3)))
def F_L_setLimit (fl : Nat) (v0 : Nat) (v1 : Int32) (v2 : Int32) (v3 : Nat) (s : Mem) : Option (Int32 × Mem) :=
  bd (F_X7_setLimit fl v0 v1 v2 s) fun q1 =>
  xc q1 (fun e7 s4 =>
    if e7 = 3 then (
      some ((1 : Int32), s4))
    else
    if e7 = 1 then (
      some ((2 : Int32), s4))
    else
    none) fun x3 s4 =>
  bd (aLen v3 1) fun N8 =>
  gd (inR (0 : Int32) N8) <|
  some ((0 : Int32), (pL s4 v3 (0 : Int32).toNatClampNeg (Int32.toInt64 x3)))
def F_L_setRate (fl : Nat) (v0 : Nat) (v1 : Int32) (v2 : Int32) (v3 : Nat) (s : Mem) : Option (Int32 × Mem) :=
  bd (F_X7_setRate fl v0 v1 v2 s) fun q1 =>
  xc q1 (fun e7 s4 =>
    if e7 = 3 then (
      some ((1 : Int32), s4))
    else
    if e7 = 1 then (
      some ((2 : Int32), s4))
    else
    none) fun x3 s4 =>
  bd (aLen v3 1) fun N8 =>
  gd (inR (0 : Int32) N8) <|
  some ((0 : Int32), (pL s4 v3 (0 : Int32).toNatClampNeg (Int32.toInt64 x3)))
def F_L_setGap (fl : Nat) (v0 : Nat) (v1 : Int32) (v2 : Nat) (s : Mem) : Option (Int32 × Mem) :=
  bd (F_X7_setGap fl v0 v1 s) fun q1 =>
  xc q1 (fun e7 s4 =>
    if e7 = 1 then (
      some ((1 : Int32), s4))
    else
    none) fun x3 s4 =>
  bd (aLen v2 1) fun N8 =>
  gd (inR (0 : Int32) N8) <|
  some ((0 : Int32), (pL s4 v2 (0 : Int32).toNatClampNeg (Int32.toInt64 x3)))
def F_L_addSeason (fl : Nat) (v0 : Nat) (v1 : Int32) (v2 : Int32) (v3 : Int32) (v4 : Nat) (s : Mem) : Option (Int32 × Mem) :=
  bd (F_X7_addSeason fl v0 v1 v2 v3 s) fun q1 =>
  xc q1 (fun e7 s4 =>
    if e7 = 1 then (
      some ((1 : Int32), s4))
    else
    if e7 = 2 then (
      some ((2 : Int32), s4))
    else
    none) fun x3 s4 =>
  bd (aLen v4 1) fun N8 =>
  gd (inR (0 : Int32) N8) <|
  some ((0 : Int32), (pL s4 v4 (0 : Int32).toNatClampNeg (Int32.toInt64 x3)))
def F_L_dropSeason (fl : Nat) (v0 : Nat) (v1 : Int32) (v2 : Nat) (s : Mem) : Option (Int32 × Mem) :=
  bd (F_X7_dropSeason fl v0 v1 s) fun q1 =>
  xc q1 (fun e7 s4 =>
    if e7 = 3 then (
      some ((1 : Int32), s4))
    else
    none) fun x3 s4 =>
  bd (aLen v2 1) fun N8 =>
  gd (inR (0 : Int32) N8) <|
  some ((0 : Int32), (pL s4 v2 (0 : Int32).toNatClampNeg (Int32.toInt64 x3)))
def F_L_season (fl : Nat) (v0 : Nat) (v1 : Int32) (v2 : Int32) (v3 : Nat) (s : Mem) : Option (Int32 × Mem) :=
  bd (F_X7_season fl v0 v1 v2 s) fun q1 =>
  xc q1 (fun e7 s4 =>
    if e7 = 3 then (
      some ((1 : Int32), s4))
    else
    if e7 = 1 then (
      some ((2 : Int32), s4))
    else
    none) fun x3 s4 =>
  bd (aLen v3 1) fun N8 =>
  gd (inR (0 : Int32) N8) <|
  some ((0 : Int32), (pL s4 v3 (0 : Int32).toNatClampNeg (Int32.toInt64 x3)))
def F_L_leastStay (fl : Nat) (v0 : Nat) (v1 : Int32) (v2 : Int32) (v3 : Nat) (s : Mem) : Option (Int32 × Mem) :=
  bd (F_X7_leastStay fl v0 v1 v2 s) fun q1 =>
  xc q1 (fun e7 s4 =>
    if e7 = 1 then (
      some ((1 : Int32), s4))
    else
    none) fun x3 s4 =>
  bd (aLen v3 1) fun N8 =>
  gd (inR (0 : Int32) N8) <|
  some ((0 : Int32), (pL s4 v3 (0 : Int32).toNatClampNeg (Int32.toInt64 x3)))
def F_L_book (fl : Nat) (v0 : Nat) (v1 : Int32) (v2 : Int32) (v3 : Int32) (v4 : Int32) (v5 : Int32) (v6 : Int32) (v7 : Nat) (s : Mem) : Option (Int32 × Mem) :=
  bd (F_X7_book fl v0 v1 v2 v3 v4 v5 v6 s) fun q1 =>
  xc q1 (fun e7 s4 =>
    if e7 = 1 then (
      some ((1 : Int32), s4))
    else
    if e7 = 2 then (
      some ((2 : Int32), s4))
    else
    if e7 = 5 then (
      some ((3 : Int32), s4))
    else
    none) fun x3 s4 =>
  bd (aLen v7 1) fun N8 =>
  gd (inR (0 : Int32) N8) <|
  some ((0 : Int32), (pL s4 v7 (0 : Int32).toNatClampNeg (Int32.toInt64 x3)))
def F_L_append (fl : Nat) (v0 : Nat) (v1 : Int32) (s : Mem) : Option (Int32 × Mem) :=
  bd (F_X7_append fl v0 v1 s) fun q1 =>
  xc q1 (fun e6 s3 =>
    if e6 = 2 then (
      some ((1 : Int32), s3))
    else
    none) fun u9 s3 =>
  some ((0 : Int32), s3)
def F_L_readBooking (fl : Nat) (v0 : Nat) (v1 : Nat) (s : Mem) : Option (Int32 × Mem) :=
  bd (F_X7_readBooking fl v0 s) fun q1 =>
  xc q1 (fun e7 s4 =>
    if e7 = 1 then (
      some ((1 : Int32), s4))
    else
    if e7 = 2 then (
      some ((2 : Int32), s4))
    else
    if e7 = 5 then (
      some ((3 : Int32), s4))
    else
    none) fun x3 s4 =>
  bd (aLen v1 1) fun N8 =>
  gd (inR (0 : Int32) N8) <|
  some ((0 : Int32), (pL s4 v1 (0 : Int32).toNatClampNeg (Int32.toInt64 x3)))
def F_L_refusal (fl : Nat) (v0 : Nat) (v1 : Nat) (s : Mem) : Option (Int32 × Mem) :=
  bd (F_X7_refusal fl v0 s) fun q1 =>
  xc q1 (fun e7 s4 =>
    if e7 = 6 then (
      some ((1 : Int32), s4))
    else
    none) fun x3 s4 =>
  bd (aLen v1 1) fun N8 =>
  gd (inR (0 : Int32) N8) <|
  some ((0 : Int32), (pL s4 v1 (0 : Int32).toNatClampNeg (Int32.toInt64 x3)))
def F_L_party (fl : Nat) (v0 : Nat) (v1 : Int32) (v2 : Int32) (v3 : Nat) (s : Mem) : Option (Int32 × Mem) :=
  bd (F_X7_party fl v0 v1 v2 s) fun q1 =>
  xc q1 (fun e7 s4 =>
    if e7 = 3 then (
      some ((1 : Int32), s4))
    else
    if e7 = 1 then (
      some ((2 : Int32), s4))
    else
    none) fun x3 s4 =>
  bd (aLen v3 1) fun N8 =>
  gd (inR (0 : Int32) N8) <|
  some ((0 : Int32), (pL s4 v3 (0 : Int32).toNatClampNeg (Int32.toInt64 x3)))
def F_L_moveOf (fl : Nat) (v0 : Nat) (v1 : Int32) (v2 : Int32) (v3 : Nat) (s : Mem) : Option (Int32 × Mem) :=
  bd (F_X7_moveOf fl v0 v1 v2 s) fun q1 =>
  xc q1 (fun e7 s4 =>
    if e7 = 6 then (
      some ((1 : Int32), s4))
    else
    if e7 = 1 then (
      some ((2 : Int32), s4))
    else
    none) fun x3 s4 =>
  bd (aLen v3 1) fun N8 =>
  gd (inR (0 : Int32) N8) <|
  some ((0 : Int32), (pL s4 v3 (0 : Int32).toNatClampNeg (Int32.toInt64 x3)))
def F_L_move (fl : Nat) (v0 : Nat) (v1 : Int32) (v2 : Int32) (v3 : Nat) (s : Mem) : Option (Int32 × Mem) :=
  bd (F_X7_move fl v0 v1 v2 s) fun q1 =>
  xc q1 (fun e7 s4 =>
    if e7 = 3 then (
      some ((1 : Int32), s4))
    else
    if e7 = 2 then (
      some ((2 : Int32), s4))
    else
    if e7 = 5 then (
      some ((3 : Int32), s4))
    else
    none) fun x3 s4 =>
  bd (aLen v3 1) fun N8 =>
  gd (inR (0 : Int32) N8) <|
  some ((0 : Int32), (pL s4 v3 (0 : Int32).toNatClampNeg (Int32.toInt64 x3)))
def F_L_cancel (fl : Nat) (v0 : Nat) (v1 : Int32) (v2 : Nat) (s : Mem) : Option (Int32 × Mem) :=
  bd (F_X7_cancel fl v0 v1 s) fun q1 =>
  xc q1 (fun e7 s4 =>
    if e7 = 3 then (
      some ((1 : Int32), s4))
    else
    if e7 = 2 then (
      some ((2 : Int32), s4))
    else
    none) fun x3 s4 =>
  bd (aLen v2 1) fun N8 =>
  gd (inR (0 : Int32) N8) <|
  some ((0 : Int32), (pL s4 v2 (0 : Int32).toNatClampNeg (Int32.toInt64 x3)))
def F_L_advance (fl : Nat) (v0 : Nat) (v1 : Int32) (v2 : Nat) (s : Mem) : Option (Int32 × Mem) :=
  bd (F_X7_advance fl v0 v1 s) fun q1 =>
  xc q1 (fun e7 s4 =>
    if e7 = 1 then (
      some ((1 : Int32), s4))
    else
    none) fun x3 s4 =>
  bd (aLen v2 1) fun N8 =>
  gd (inR (0 : Int32) N8) <|
  some ((0 : Int32), (pL s4 v2 (0 : Int32).toNatClampNeg (Int32.toInt64 x3)))
def F_L_obstacle (fl : Nat) (v0 : Nat) (v1 : Int32) (v2 : Int32) (v3 : Nat) (s : Mem) : Option (Int32 × Mem) :=
  bd (F_X7_obstacle fl v0 v1 v2 s) fun q1 =>
  xc q1 (fun e7 s4 =>
    if e7 = 3 then (
      some ((1 : Int32), s4))
    else
    none) fun x3 s4 =>
  bd (aLen v3 1) fun N8 =>
  gd (inR (0 : Int32) N8) <|
  some ((0 : Int32), (pL s4 v3 (0 : Int32).toNatClampNeg (Int32.toInt64 x3)))
def F_L_occupant (fl : Nat) (v0 : Nat) (v1 : Int32) (v2 : Int32) (v3 : Nat) (s : Mem) : Option (Int32 × Mem) :=
  bd (F_X7_occupant fl v0 v1 v2 s) fun q1 =>
  xc q1 (fun e7 s4 =>
    if e7 = 3 then (
      some ((1 : Int32), s4))
    else
    none) fun x3 s4 =>
  bd (aLen v3 1) fun N8 =>
  gd (inR (0 : Int32) N8) <|
  some ((0 : Int32), (pL s4 v3 (0 : Int32).toNatClampNeg (Int32.toInt64 x3)))
def F_L_busyNight (fl : Nat) (v0 : Nat) (v1 : Int32) (v2 : Int32) (v3 : Nat) (s : Mem) : Option (Int32 × Mem) :=
  bd (F_X7_busyNight fl v0 v1 v2 s) fun q1 =>
  xc q1 (fun e7 s4 =>
    if e7 = 3 then (
      some ((1 : Int32), s4))
    else
    if e7 = 6 then (
      some ((2 : Int32), s4))
    else
    none) fun x3 s4 =>
  bd (aLen v3 1) fun N8 =>
  gd (inR (0 : Int32) N8) <|
  some ((0 : Int32), (pL s4 v3 (0 : Int32).toNatClampNeg (Int32.toInt64 x3)))
def F_L_firstFree (fl : Nat) (v0 : Nat) (v1 : Int32) (v2 : Int32) (v3 : Int32) (v4 : Nat) (s : Mem) : Option (Int32 × Mem) :=
  bd (F_X7_firstFree fl v0 v1 v2 v3 s) fun q1 =>
  xc q1 (fun e7 s4 =>
    if e7 = 3 then (
      some ((1 : Int32), s4))
    else
    if e7 = 1 then (
      some ((2 : Int32), s4))
    else
    if e7 = 6 then (
      some ((3 : Int32), s4))
    else
    none) fun x3 s4 =>
  bd (aLen v4 1) fun N8 =>
  gd (inR (0 : Int32) N8) <|
  some ((0 : Int32), (pL s4 v4 (0 : Int32).toNatClampNeg (Int32.toInt64 x3)))
def F_L_power (fl : Nat) (v0 : Nat) (v1 : Int32) (v2 : Int32) (v3 : Nat) (s : Mem) : Option (Int32 × Mem) :=
  bd (F_X7_power fl v0 v1 v2 s) fun q1 =>
  xc q1 (fun e7 s4 =>
    if e7 = 3 then (
      some ((1 : Int32), s4))
    else
    none) fun x3 s4 =>
  bd (aLen v3 1) fun N8 =>
  gd (inR (0 : Int32) N8) <|
  some ((0 : Int32), (pL s4 v3 (0 : Int32).toNatClampNeg (Int32.toInt64 x3)))
def F_L_peak (fl : Nat) (v0 : Nat) (v1 : Int32) (v2 : Nat) (s : Mem) : Option (Int32 × Mem) :=
  bd (F_X7_peak fl v0 v1 s) fun q1 =>
  xc q1 (fun e7 s4 =>
    if e7 = 3 then (
      some ((1 : Int32), s4))
    else
    if e7 = 6 then (
      some ((2 : Int32), s4))
    else
    none) fun x3 s4 =>
  bd (aLen v2 1) fun N8 =>
  gd (inR (0 : Int32) N8) <|
  some ((0 : Int32), (pL s4 v2 (0 : Int32).toNatClampNeg (Int32.toInt64 x3)))
def F_L_gap (fl : Nat) (v0 : Nat) (v1 : Int32) (v2 : Int32) (v3 : Int32) (v4 : Nat) (s : Mem) : Option (Int32 × Mem) :=
  bd (F_X7_gap fl v0 v1 v2 v3 s) fun q1 =>
  xc q1 (fun e7 s4 =>
    if e7 = 3 then (
      some ((1 : Int32), s4))
    else
    if e7 = 6 then (
      some ((2 : Int32), s4))
    else
    none) fun x3 s4 =>
  bd (aLen v4 1) fun N8 =>
  gd (inR (0 : Int32) N8) <|
  some ((0 : Int32), (pL s4 v4 (0 : Int32).toNatClampNeg (Int32.toInt64 x3)))
def F_L_account (fl : Nat) (v0 : Nat) (v1 : Int32) (v2 : Nat) (s : Mem) : Option (Int32 × Mem) :=
  bd (F_X7_account fl v0 v1 s) fun q1 =>
  xc q1 (fun e7 s4 =>
    if e7 = 1 then (
      some ((1 : Int32), s4))
    else
    none) fun x3 s4 =>
  bd (aLen v2 1) fun N8 =>
  gd (inR (0 : Int32) N8) <|
  some ((0 : Int32), (pL s4 v2 (0 : Int32).toNatClampNeg (Int32.toInt64 x3)))
def F_L_share (fl : Nat) (v0 : Nat) (v1 : Nat) (s : Mem) : Option (Int32 × Mem) :=
  bd (F_X7_share fl v0 s) fun q1 =>
  xc q1 (fun e7 s4 =>
    if e7 = 4 then (
      some ((1 : Int32), s4))
    else
    none) fun x3 s4 =>
  bd (aLen v1 3) fun N8 =>
  gd (inR (0 : Int32) N8) <|
  some ((0 : Int32), (pD s4 v1 (0 : Int32).toNatClampNeg x3))
def F_L_undo (fl : Nat) (v0 : Nat) (v1 : Nat) (s : Mem) : Option (Int32 × Mem) :=
  bd (F_X7_undo fl v0 s) fun q1 =>
  xc q1 (fun e7 s4 =>
    if e7 = 2 then (
      some ((1 : Int32), s4))
    else
    none) fun x3 s4 =>
  bd (aLen v1 1) fun N8 =>
  gd (inR (0 : Int32) N8) <|
  some ((0 : Int32), (pL s4 v1 (0 : Int32).toNatClampNeg (Int32.toInt64 x3)))
def F_L_restore (fl : Nat) (v0 : Nat) (s : Mem) : Option (Int32 × Mem) :=
  bd (F_X7_restore fl v0 s) fun q1 =>
  xc q1 (fun e6 s3 =>
    if e6 = 2 then (
      some ((1 : Int32), s3))
    else
    none) fun u9 s3 =>
  some ((0 : Int32), s3)
