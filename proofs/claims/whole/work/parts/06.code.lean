def F_X0_add (fl : Nat) (v0 : Nat) (v1 : Int32) (s : Mem) : Option (Int32 × Mem) :=
  bd (ldA s v0 0 2) fun r1 =>
  if (gI s v0 1) < (nI r1.2) then (
    bd (ldA s v0 0 2) fun r4 =>
    gd (inR (gI s v0 1) r4.2) <|
    nx (pI s r4.1 (gI s v0 1).toNatClampNeg (vp_nar .char v1)) fun m7 =>
    nx (pI m7 v0 1 ((gI m7 v0 1) + (1 : Int32))) fun m9 =>
    some ((1 : Int32), m9))
  else
  some ((0 : Int32), s)
def F_X0_readSign (fl : Nat) (v0 : Nat) (v1 : Int32) (s : Mem) : Option (Int32 × Mem) :=
  if (gI s v0 1) ≤ (gI s v0 2) then (
    some ((0 : Int32), s))
  else
  bd (ldA s v0 0 2) fun r2 =>
  if (nI r2.2) ≤ (gI s v0 2) then (
    some ((0 : Int32), s))
  else
  bd (ldA s v0 0 2) fun r5 =>
  gd (inR (gI s v0 2) r5.2) <|
  if (gI s r5.1 (gI s v0 2).toNatClampNeg) = v1 then (
    nx (pI s v0 2 ((gI s v0 2) + (1 : Int32))) fun m9 =>
    some ((1 : Int32), m9))
  else
  some ((0 : Int32), s)
def F_X0_readKind (fl : Nat) (v0 : Nat) (s : Mem) : Option (Int32 × Mem) :=
  nx (pI s v0 4 (0 : Int32)) fun m1 =>
  bd (F_X0_readSign fl v0 (116 : Int32) m1) fun q3 =>
  if q3.1 = 0 then (
    nx (pI q3.2 v0 4 (1 : Int32)) fun m6 =>
    bd (F_X0_readSign fl v0 (99 : Int32) m6) fun q8 =>
    if q8.1 = 0 then (
      nx (pI q8.2 v0 4 (2 : Int32)) fun m11 =>
      bd (F_X0_readSign fl v0 (109 : Int32) m11) fun q13 =>
      gd (q13.1 = 0 ∨ q13.1 = 1) <|
      some (q13.1, q13.2))
    else
    some ((1 : Int32), q8.2))
  else
  some ((1 : Int32), q3.2)
def F_X0_readDigit (fl : Nat) (v0 : Nat) (s : Mem) : Option (Int32 × Mem) :=
  if (gI s v0 1) ≤ (gI s v0 2) then (
    some ((-1 : Int32), s))
  else
  bd (ldA s v0 0 2) fun r2 =>
  if (nI r2.2) ≤ (gI s v0 2) then (
    some ((-1 : Int32), s))
  else
  bd (ldA s v0 0 2) fun r5 =>
  gd (inR (gI s v0 2) r5.2) <|
  if (gI s r5.1 (gI s v0 2).toNatClampNeg) < (48 : Int32) then (
    some ((-1 : Int32), s))
  else
  bd (ldA s v0 0 2) fun r9 =>
  gd (inR (gI s v0 2) r9.2) <|
  if (gI s r9.1 (gI s v0 2).toNatClampNeg) ≤ (57 : Int32) then (
    nx (pI s v0 2 ((gI s v0 2) + (1 : Int32))) fun m13 =>
    bd (ldA m13 v0 0 2) fun r15 =>
    gd (inR ((gI m13 v0 2) - (1 : Int32)) r15.2) <|
    some (((gI m13 r15.1 ((gI m13 v0 2) - (1 : Int32)).toNatClampNeg) - (48 : Int32)), m13))
  else
  some ((-1 : Int32), s)
def B_X0_readNumber_23 (fl : Nat) (v0 : Nat) (v1 : Int32) (v2 : Int32) (w0 : Int32) (s : Mem) : Option (Int32 × Mem) :=
  bd (ldA s v0 5 0) fun r1 =>
  if 0 ≤ w0 then (
    gd (inR v1 r1.2) <|
    nx (pI s r1.1 v1.toNatClampNeg (((10 : Int32) * v2) + w0)) fun m5 =>
    some ((1 : Int32), m5))
  else
  gd (inR v1 r1.2) <|
  nx (pI s r1.1 v1.toNatClampNeg v2) fun m8 =>
  some ((1 : Int32), m8)
def F_X0_readNumber (fl : Nat) (v0 : Nat) (v1 : Int32) (s : Mem) : Option (Int32 × Mem) :=
  bd (F_X0_readDigit fl v0 s) fun q10 =>
  if 0 ≤ q10.1 then (
    if q10.1 ≤ 0 then (
      B_X0_readNumber_23 fl v0 v1 q10.1 (-1 : Int32) q10.2)
    else
    bd (F_X0_readDigit fl v0 q10.2) fun q14 =>
    B_X0_readNumber_23 fl v0 v1 q10.1 q14.1 q14.2)
  else
  some ((0 : Int32), q10.2)
def F_X0_readPower (fl : Nat) (v0 : Nat) (s : Mem) : Option (Int32 × Mem) :=
  bd (ldA s v0 5 0) fun r1 =>
  gd (inR (4 : Int32) r1.2) <|
  nx (pI s r1.1 (4 : Int32).toNatClampNeg (0 : Int32)) fun m4 =>
  if (gI m4 v0 2) = (gI m4 v0 1) then (
    some ((1 : Int32), m4))
  else
  bd (F_X0_readSign fl v0 (112 : Int32) m4) fun q7 =>
  if q7.1 = 0 then (
    some ((0 : Int32), q7.2))
  else
  bd (F_X0_readNumber fl v0 (4 : Int32) q7.2) fun q10 =>
  if q10.1 = 0 then (
    some ((0 : Int32), q10.2))
  else
  some ((1 : Int32), q10.2)
def F_X0_readAll (fl : Nat) (v0 : Nat) (s : Mem) : Option (Int32 × Mem) :=
  bd (F_X0_readKind fl v0 s) fun q1 =>
  if q1.1 = 0 then (
    some ((0 : Int32), q1.2))
  else
  bd (F_X0_readNumber fl v0 (0 : Int32) q1.2) fun q4 =>
  if q4.1 = 0 then (
    some ((0 : Int32), q4.2))
  else
  bd (F_X0_readSign fl v0 (120 : Int32) q4.2) fun q7 =>
  if q7.1 = 0 then (
    some ((0 : Int32), q7.2))
  else
  bd (F_X0_readNumber fl v0 (1 : Int32) q7.2) fun q10 =>
  if q10.1 = 0 then (
    some ((0 : Int32), q10.2))
  else
  bd (F_X0_readSign fl v0 (64 : Int32) q10.2) fun q13 =>
  if q13.1 = 0 then (
    some ((0 : Int32), q13.2))
  else
  bd (F_X0_readNumber fl v0 (2 : Int32) q13.2) fun q16 =>
  if q16.1 = 0 then (
    some ((0 : Int32), q16.2))
  else
  bd (F_X0_readSign fl v0 (43 : Int32) q16.2) fun q19 =>
  if q19.1 = 0 then (
    some ((0 : Int32), q19.2))
  else
  bd (F_X0_readNumber fl v0 (3 : Int32) q19.2) fun q22 =>
  if q22.1 = 0 then (
    some ((0 : Int32), q22.2))
  else
  bd (F_X0_readPower fl v0 q22.2) fun q25 =>
  if q25.1 = 0 then (
    some ((0 : Int32), q25.2))
  else
  if (gI q25.2 v0 2) = (gI q25.2 v0 1) then (
    some ((1 : Int32), q25.2))
  else
  some ((0 : Int32), q25.2)
def F_X0_parse (fl : Nat) (v0 : Nat) (s : Mem) : Option (Int32 × Mem) :=
  nx (pI s v0 2 (0 : Int32)) fun m1 =>
  bd (F_X0_readAll fl v0 m1) fun q3 =>
  if q3.1 = 0 then (
    nx (pI q3.2 v0 3 (gI q3.2 v0 2)) fun m6 =>
    nx (pI m6 v0 1 (0 : Int32)) fun m8 =>
    gd (q3.1 = 0 ∨ q3.1 = 1) <|
    some (q3.1, m8))
  else
  nx (pI q3.2 v0 3 (-1 : Int32)) fun m11 =>
  nx (pI m11 v0 1 (0 : Int32)) fun m13 =>
  gd (q3.1 = 0 ∨ q3.1 = 1) <|
  some (q3.1, m13)
def F_X4_copyFrom (fl : Nat) (v0 : Nat) (v1 : Nat) (s : Mem) : Option Mem :=
  nx (pI s v0 0 (gI s v1 0)) fun m1 =>
  nx (pI m1 v0 1 (gI m1 v1 1)) fun m3 =>
  nx (pI m3 v0 2 (gI m3 v1 2)) fun m5 =>
  nx (pI m5 v0 3 (gI m5 v1 3)) fun m7 =>
  nx (pI m7 v0 4 (gI m7 v1 4)) fun m9 =>
  some m9
def F_X3_copyFrom (fl : Nat) (v0 : Nat) (v1 : Nat) (s : Mem) : Option Mem :=
  nx (pI s v0 0 (gI s v1 0)) fun m1 =>
  nx (pI m1 v0 1 (gI m1 v1 1)) fun m3 =>
  nx (pI m3 v0 2 (gI m3 v1 2)) fun m5 =>
  nx (pI m5 v0 3 (gI m5 v1 3)) fun m7 =>
  nx (pI m7 v0 4 (gI m7 v1 4)) fun m9 =>
  nx (pI m9 v0 5 (gI m9 v1 5)) fun m11 =>
  nx (pL m11 v0 6 (gL m11 v1 6)) fun m13 =>
  nx (pI m13 v0 7 (gI m13 v1 7)) fun m15 =>
  nx (pI m15 v0 8 (gI m15 v1 8)) fun m17 =>
  nx (pI m17 v0 9 (gI m17 v1 9)) fun m19 =>
  gd ((gI m19 v1 10) = 0 ∨ (gI m19 v1 10) = 1) <|
  nx (pI m19 v0 10 (gI m19 v1 10)) fun m22 =>
  some m22
def F_X6_copyFrom (fl : Nat) (v0 : Nat) (v1 : Nat) (s : Mem) : Option Mem :=
  nx (pI s v0 0 (gI s v1 0)) fun m1 =>
  nx (pI m1 v0 1 (gI m1 v1 1)) fun m3 =>
  nx (pI m3 v0 2 (gI m3 v1 2)) fun m5 =>
  some m5
def B_X1_copyFrom_119 (fl : Nat) : Nat → Nat → Nat → Int32 → Mem → Option Mem
  | 0 => fun _ _ _ _ => none
  | n + 1 => fun v0 v1 v2 s =>
    if (3 : Int32) ≤ v2 then (
      nx (pI s v0 7 (gI s v1 7)) fun m2 =>
      nx (pI m2 v0 8 (gI m2 v1 8)) fun m4 =>
      some m4)
    else
    bd (ldA s v0 6 0) fun r6 =>
    bd (ldA s v1 6 0) fun r8 =>
    gd (inR v2 r8.2) <|
    gd (inR v2 r6.2) <|
    nx (pI s r6.1 v2.toNatClampNeg (gI s r8.1 v2.toNatClampNeg)) fun m12 =>
    B_X1_copyFrom_119 fl n v0 v1 (v2 + (1 : Int32)) m12
def B_X1_copyFrom_88 (fl : Nat) : Nat → Nat → Nat → Int32 → Mem → Option Mem
  | 0 => fun _ _ _ _ => none
  | n + 1 => fun v0 v1 v2 s =>
    if (gI s v0 5) ≤ v2 then (
      B_X1_copyFrom_119 fl fl v0 v1 (0 : Int32) s)
    else
    bd (ldA s v0 4 6) fun r15 =>
    gd (inR v2 r15.2) <|
    bd (ldO s r15.1 v2.toNatClampNeg 8) fun r18 =>
    bd (ldA s v1 4 6) fun r20 =>
    gd (inR v2 r20.2) <|
    bd (ldO s r20.1 v2.toNatClampNeg 8) fun r23 =>
    bd (F_X6_copyFrom fl r18 r23 s) fun q25 =>
    B_X1_copyFrom_88 fl n v0 v1 (v2 + (1 : Int32)) q25
def B_X1_copyFrom_49 (fl : Nat) : Nat → Nat → Nat → Int32 → Mem → Option Mem
  | 0 => fun _ _ _ _ => none
  | n + 1 => fun v0 v1 v2 s =>
    if (gI s v0 3) ≤ v2 then (
      nx (pI s v0 5 (gI s v1 5)) fun m28 =>
      B_X1_copyFrom_88 fl fl v0 v1 (0 : Int32) m28)
    else
    bd (ldA s v0 2 5) fun r30 =>
    gd (inR v2 r30.2) <|
    bd (ldO s r30.1 v2.toNatClampNeg 5) fun r33 =>
    bd (ldA s v1 2 5) fun r35 =>
    gd (inR v2 r35.2) <|
    bd (ldO s r35.1 v2.toNatClampNeg 5) fun r38 =>
    bd (F_X3_copyFrom fl r33 r38 s) fun q40 =>
    B_X1_copyFrom_49 fl n v0 v1 (v2 + (1 : Int32)) q40
def B_X1_copyFrom_10 (fl : Nat) : Nat → Nat → Nat → Int32 → Mem → Option Mem
  | 0 => fun _ _ _ _ => none
  | n + 1 => fun v0 v1 v2 s =>
    if (gI s v0 1) ≤ v2 then (
      nx (pI s v0 3 (gI s v1 3)) fun m43 =>
      B_X1_copyFrom_49 fl fl v0 v1 (0 : Int32) m43)
    else
    bd (ldA s v0 0 4) fun r45 =>
    gd (inR v2 r45.2) <|
    bd (ldO s r45.1 v2.toNatClampNeg 6) fun r48 =>
    bd (ldA s v1 0 4) fun r50 =>
    gd (inR v2 r50.2) <|
    bd (ldO s r50.1 v2.toNatClampNeg 6) fun r53 =>
    bd (F_X4_copyFrom fl r48 r53 s) fun q55 =>
    B_X1_copyFrom_10 fl n v0 v1 (v2 + (1 : Int32)) q55
def F_X1_copyFrom (fl : Nat) (v0 : Nat) (v1 : Nat) (s : Mem) : Option Mem :=
  nx (pI s v0 1 (gI s v1 1)) fun m57 =>
  B_X1_copyFrom_10 fl fl v0 v1 (0 : Int32) m57
def F_X1_hasPitch (fl : Nat) (v0 : Nat) (v1 : Int32) (s : Mem) : Option Int32 :=
  if v1 < 0 then (
    some (0 : Int32))
  else
  if (gI s v0 1) ≤ v1 then (
    some (0 : Int32))
  else
  some (1 : Int32)
def F_X1_circuitOf (fl : Nat) (v0 : Nat) (v1 : Int32) (s : Mem) : Option Int32 :=
  if v1 < 0 then (
    some (-1 : Int32))
  else
  if (gI s v0 1) ≤ v1 then (
    some (-1 : Int32))
  else
  bd (ldA s v0 0 4) fun r3 =>
  gd (inR v1 r3.2) <|
  bd (ldO s r3.1 v1.toNatClampNeg 6) fun r6 =>
  some (gI s r6 3)
def F_X1_rateOf (fl : Nat) (v0 : Nat) (v1 : Int32) (s : Mem) : Option Int32 :=
  bd (F_X1_hasPitch fl v0 v1 s) fun q1 =>
  if q1 = 0 then (
    some (0 : Int32))
  else
  bd (ldA s v0 0 4) fun r4 =>
  gd (inR v1 r4.2) <|
  bd (ldO s r4.1 v1.toNatClampNeg 6) fun r7 =>
  some (gI s r7 4)
def F_X1_areaOf (fl : Nat) (v0 : Nat) (v1 : Int32) (s : Mem) : Option Int32 :=
  bd (F_X1_hasPitch fl v0 v1 s) fun q1 =>
  if q1 = 0 then (
    some (0 : Int32))
  else
  bd (ldA s v0 0 4) fun r4 =>
  gd (inR v1 r4.2) <|
  bd (ldO s r4.1 v1.toNatClampNeg 6) fun r7 =>
  bd (ldA s v0 0 4) fun r9 =>
  gd (inR v1 r9.2) <|
  bd (ldO s r9.1 v1.toNatClampNeg 6) fun r12 =>
  some ((gI s r7 1) * (gI s r12 2))
def B_X4_takes_75 (fl : Nat) (s : Mem) (v0 : Nat) (v1 : Nat) : Option Int32 :=
  if (gI s v1 3) = 0 then (
    some (1 : Int32))
  else
  if (gI s v0 3) = (-1 : Int32) then (
    some (0 : Int32))
  else
  some (1 : Int32)
def B_X4_takes_55 (fl : Nat) (s : Mem) (v0 : Nat) (v1 : Nat) (v2 : Int32) (w0 : Int32) : Option Int32 :=
  if (gI s v0 0) < (gI s v1 0) then (
    some (0 : Int32))
  else
  if v2 = 0 then (
    if w0 = 0 then (
      some (0 : Int32))
    else
    B_X4_takes_75 fl s v0 v1)
  else
  B_X4_takes_75 fl s v0 v1
def B_X4_takes_54 (fl : Nat) (s : Mem) (v0 : Nat) (v1 : Nat) (v2 : Int32) : Option Int32 :=
  B_X4_takes_55 fl s v0 v1 v2 (0 : Int32)
def B_X4_takes_27 (fl : Nat) (s : Mem) (v0 : Nat) (v1 : Nat) (w0 : Int32) : Option Int32 :=
  if (gI s v0 1) < (gI s v1 2) then (
    B_X4_takes_54 fl s v0 v1 w0)
  else
  if (gI s v0 2) < (gI s v1 1) then (
    B_X4_takes_54 fl s v0 v1 w0)
  else
  B_X4_takes_55 fl s v0 v1 w0 (1 : Int32)
def B_X4_takes_26 (fl : Nat) (s : Mem) (v0 : Nat) (v1 : Nat) : Option Int32 :=
  B_X4_takes_27 fl s v0 v1 (0 : Int32)
def F_X4_takes (fl : Nat) (v0 : Nat) (v1 : Nat) (s : Mem) : Option Int32 :=
  if (gI s v0 1) < (gI s v1 1) then (
    B_X4_takes_26 fl s v0 v1)
  else
  if (gI s v0 2) < (gI s v1 2) then (
    B_X4_takes_26 fl s v0 v1)
  else
  B_X4_takes_27 fl s v0 v1 (1 : Int32)
def F_X1_hasFit (fl : Nat) (v0 : Nat) (v1 : Nat) (v2 : Int32) (s : Mem) : Option Int32 :=
  bd (F_X1_hasPitch fl v0 v2 s) fun q1 =>
  if q1 = 0 then (
    some (0 : Int32))
  else
  bd (ldA s v0 0 4) fun r4 =>
  gd (inR v2 r4.2) <|
  bd (ldO s r4.1 v2.toNatClampNeg 6) fun r7 =>
  bd (F_X4_takes fl r7 v1 s) fun q9 =>
  if q9 = 0 then (
    some (0 : Int32))
  else
  some (1 : Int32)
def F_X1_isStillToCome (fl : Nat) (v0 : Nat) (v1 : Nat) (s : Mem) : Option Int32 :=
  if (gI s v1 10) = 0 then (
    some (0 : Int32))
  else
  if (gI s v1 4) < (gI s v0 8) then (
    some (0 : Int32))
  else
  some (1 : Int32)
def F_X1_makePitch (fl : Nat) (v0 : Nat) (v1 : Int32) (v2 : Int32) (v3 : Int32) (v4 : Int32) (s : Mem) : Option (Int32 × Mem) :=
  bd (ldA s v0 0 4) fun r1 =>
  gd (inR (gI s v0 1) r1.2) <|
  bd (ldO s r1.1 (gI s v0 1).toNatClampNeg 6) fun r4 =>
  nx (pI s r4 0 v1) fun m6 =>
  nx (pI m6 r4 1 v2) fun m8 =>
  nx (pI m8 r4 2 v3) fun m10 =>
  nx (pI m10 r4 3 v4) fun m12 =>
  nx (pI m12 r4 4 (10 : Int32)) fun m14 =>
  nx (pI m14 v0 1 ((gI m14 v0 1) + (1 : Int32))) fun m16 =>
  some (((gI m16 v0 1) - (1 : Int32)), m16)
def F_X1_makeSeason (fl : Nat) (v0 : Nat) (v1 : Int32) (v2 : Int32) (v3 : Int32) (s : Mem) : Option (Int32 × Mem) :=
  bd (ldA s v0 4 6) fun r1 =>
  gd (inR (gI s v0 5) r1.2) <|
  bd (ldO s r1.1 (gI s v0 5).toNatClampNeg 8) fun r4 =>
  nx (pI s r4 0 v1) fun m6 =>
  nx (pI m6 r4 1 v2) fun m8 =>
  nx (pI m8 r4 2 v3) fun m10 =>
  nx (pI m10 v0 5 ((gI m10 v0 5) + (1 : Int32))) fun m12 =>
  some (((gI m12 v0 5) - (1 : Int32)), m12)
def B_X1_removeSeason_2 (fl : Nat) : Nat → Nat → Int32 → Mem → Option Mem
  | 0 => fun _ _ _ => none
  | n + 1 => fun v0 v2 s =>
    if (gI s v0 5) ≤ (v2 + (1 : Int32)) then (
      nx (pI s v0 5 ((gI s v0 5) - (1 : Int32))) fun m2 =>
      some m2)
    else
    bd (ldA s v0 4 6) fun r4 =>
    gd (inR v2 r4.2) <|
    bd (ldO s r4.1 v2.toNatClampNeg 8) fun r7 =>
    bd (ldA s v0 4 6) fun r9 =>
    gd (inR (v2 + (1 : Int32)) r9.2) <|
    bd (ldO s r9.1 (v2 + (1 : Int32)).toNatClampNeg 8) fun r12 =>
    bd (F_X6_copyFrom fl r7 r12 s) fun q14 =>
    B_X1_removeSeason_2 fl n v0 (v2 + (1 : Int32)) q14
def F_X1_removeSeason (fl : Nat) (v0 : Nat) (v1 : Int32) (s : Mem) : Option Mem :=
  B_X1_removeSeason_2 fl fl v0 v1 s
def F_X1_makeParty (fl : Nat) (v0 : Nat) (v1 : Nat) (v2 : Int32) (s : Mem) : Option (Int32 × Mem) :=
  bd (ldA s v0 2 5) fun r1 =>
  gd (inR (gI s v0 3) r1.2) <|
  bd (ldO s r1.1 (gI s v0 3).toNatClampNeg 5) fun r4 =>
  bd (F_X3_copyFrom fl r4 v1 s) fun q6 =>
  nx (pI q6 r4 7 v2) fun m8 =>
  bd (F_X1_rateOf fl v0 v2 m8) fun q10 =>
  nx (pI m8 r4 8 ((q10 + (gI m8 v1 3)) * (gI m8 v1 5))) fun m12 =>
  nx (pI m12 r4 10 (1 : Int32)) fun m14 =>
  nx (pI m14 v0 3 ((gI m14 v0 3) + (1 : Int32))) fun m16 =>
  some (((gI m16 v0 3) - (1 : Int32)), m16)
def F_X3_isOn (fl : Nat) (v0 : Nat) (v1 : Int32) (s : Mem) : Option Int32 :=
  if (gI s v0 10) = 0 then (
    some (0 : Int32))
  else
  if (gI s v0 7) = v1 then (
    some (1 : Int32))
  else
  some (0 : Int32)
def B_X1_busyNights_47 (k5 : Nat → Int32 → Int32 → Int64 → Int32 → Option Int64) (fl : Nat) (s : Mem) (v0 : Nat) (v1 : Int32) (v2 : Int32) (v3 : Int64) (v5 : Int32) : Option Int64 :=
  k5 v0 v1 v2 v3 (v5 + (1 : Int32))
def B_X1_busyNights_5 (fl : Nat) (s : Mem) : Nat → Nat → Int32 → Int32 → Int64 → Int32 → Option Int64
  | 0 => fun _ _ _ _ _ => none
  | n + 1 => fun v0 v1 v2 v3 v5 =>
    if (gI s v0 3) ≤ v5 then (
      some v3)
    else
    if v5 = v2 then (
      B_X1_busyNights_47 (B_X1_busyNights_5 fl s n) fl s v0 v1 v2 v3 v5)
    else
    bd (ldA s v0 2 5) fun r3 =>
    gd (inR v5 r3.2) <|
    bd (ldO s r3.1 v5.toNatClampNeg 5) fun r6 =>
    bd (F_X3_isOn fl r6 v1 s) fun q8 =>
    if q8 = 0 then (
      B_X1_busyNights_47 (B_X1_busyNights_5 fl s n) fl s v0 v1 v2 v3 v5)
    else
    bd (ldA s v0 2 5) fun r11 =>
    gd (inR v5 r11.2) <|
    bd (ldO s r11.1 v5.toNatClampNeg 5) fun r14 =>
    B_X1_busyNights_47 (B_X1_busyNights_5 fl s n) fl s v0 v1 v2 (v3 ||| (gL s r14 6)) v5
def F_X1_busyNights (fl : Nat) (v0 : Nat) (v1 : Int32) (v2 : Int32) (s : Mem) : Option Int64 :=
  B_X1_busyNights_5 fl s fl v0 v1 v2 (0 : Int64) (0 : Int32)
def F_X7_holds (fl : Nat) (v0 : Int64) (v2 : Int32) (s : Mem) : Option Int32 :=
  if v2 < 0 then (
    some (0 : Int32))
  else
  if (60 : Int32) ≤ v2 then (
    some (0 : Int32))
  else
  if (lg_cmp ((Int64.toUInt64 v0 >>> ((Int32.toInt64 v2).toUInt64 &&& Int64.toUInt64 63)).toInt64 &&& (1 : Int64)) (0 : Int64)) = 0 then (
    some (0 : Int32))
  else
  some (1 : Int32)
def B_X1_partyAt_41 (k2 : Nat → Int32 → Int32 → Int32 → Option Int32) (fl : Nat) (s : Mem) (v0 : Nat) (v1 : Int32) (v2 : Int32) (v3 : Int32) : Option Int32 :=
  k2 v0 v1 v2 (v3 + (1 : Int32))
def B_X1_partyAt_2 (fl : Nat) (s : Mem) : Nat → Nat → Int32 → Int32 → Int32 → Option Int32
  | 0 => fun _ _ _ _ => none
  | n + 1 => fun v0 v1 v2 v3 =>
    if (gI s v0 3) ≤ v3 then (
      some (-1 : Int32))
    else
    bd (ldA s v0 2 5) fun r2 =>
    gd (inR v3 r2.2) <|
    bd (ldO s r2.1 v3.toNatClampNeg 5) fun r5 =>
    bd (F_X3_isOn fl r5 v1 s) fun q7 =>
    if q7 = 0 then (
      B_X1_partyAt_41 (B_X1_partyAt_2 fl s n) fl s v0 v1 v2 v3)
    else
    bd (ldA s v0 2 5) fun r10 =>
    gd (inR v3 r10.2) <|
    bd (ldO s r10.1 v3.toNatClampNeg 5) fun r13 =>
    bd (F_X7_holds fl (gL s r13 6) v2 s) fun q15 =>
    if q15 = 0 then (
      B_X1_partyAt_41 (B_X1_partyAt_2 fl s n) fl s v0 v1 v2 v3)
    else
    some v3
def F_X1_partyAt (fl : Nat) (v0 : Nat) (v1 : Int32) (v2 : Int32) (s : Mem) : Option Int32 :=
  B_X1_partyAt_2 fl s fl v0 v1 v2 (0 : Int32)
def B_X1_powerUsed_73 (k6 : Nat → Int32 → Int32 → Int32 → Int32 → Int32 → Option Int32) (fl : Nat) (s : Mem) (v0 : Nat) (v1 : Int32) (v2 : Int32) (v3 : Int32) (v4 : Int32) (v5 : Int32) : Option Int32 :=
  k6 v0 v1 v2 v3 v4 (v5 + (1 : Int32))
def B_X1_powerUsed_6 (fl : Nat) (s : Mem) : Nat → Nat → Int32 → Int32 → Int32 → Int32 → Int32 → Option Int32
  | 0 => fun _ _ _ _ _ _ => none
  | n + 1 => fun v0 v1 v2 v3 v4 v5 =>
    if (gI s v0 3) ≤ v5 then (
      some v4)
    else
    bd (ldA s v0 2 5) fun r2 =>
    gd (inR v5 r2.2) <|
    bd (ldO s r2.1 v5.toNatClampNeg 5) fun r5 =>
    if v5 = v3 then (
      B_X1_powerUsed_73 (B_X1_powerUsed_6 fl s n) fl s v0 v1 v2 v3 v4 v5)
    else
    if (gI s r5 10) = 0 then (
      B_X1_powerUsed_73 (B_X1_powerUsed_6 fl s n) fl s v0 v1 v2 v3 v4 v5)
    else
    bd (F_X7_holds fl (gL s r5 6) v2 s) fun q9 =>
    if q9 = 0 then (
      B_X1_powerUsed_73 (B_X1_powerUsed_6 fl s n) fl s v0 v1 v2 v3 v4 v5)
    else
    bd (F_X1_circuitOf fl v0 (gI s r5 7) s) fun q12 =>
    if q12 = v1 then (
      B_X1_powerUsed_73 (B_X1_powerUsed_6 fl s n) fl s v0 v1 v2 v3 (v4 + (gI s r5 3)) v5)
    else
    B_X1_powerUsed_73 (B_X1_powerUsed_6 fl s n) fl s v0 v1 v2 v3 v4 v5
def F_X1_powerUsed (fl : Nat) (v0 : Nat) (v1 : Int32) (v2 : Int32) (v3 : Int32) (s : Mem) : Option Int32 :=
  B_X1_powerUsed_6 fl s fl v0 v1 v2 v3 (0 : Int32) (0 : Int32)
def B_X1_stayAsked_70 (k5 : Nat → Int32 → Int32 → Int32 → Int32 → Option Int32) (fl : Nat) (s : Mem) (v0 : Nat) (v1 : Int32) (v2 : Int32) (v3 : Int32) (v4 : Int32) : Option Int32 :=
  k5 v0 v1 v2 v3 (v4 + (1 : Int32))
def B_X1_stayAsked_48 (k5 : Nat → Int32 → Int32 → Int32 → Int32 → Option Int32) (fl : Nat) (s : Mem) (v0 : Nat) (v1 : Int32) (v2 : Int32) (v3 : Int32) (v4 : Int32) (v5 : Nat) (w0 : Int32) : Option Int32 :=
  if w0 = 0 then (
    B_X1_stayAsked_70 k5 fl s v0 v1 v2 v3 v4)
  else
  if (gI s v5 2) ≤ v3 then (
    B_X1_stayAsked_70 k5 fl s v0 v1 v2 v3 v4)
  else
  B_X1_stayAsked_70 k5 fl s v0 v1 v2 (gI s v5 2) v4
def B_X1_stayAsked_47 (k5 : Nat → Int32 → Int32 → Int32 → Int32 → Option Int32) (fl : Nat) (s : Mem) (v0 : Nat) (v1 : Int32) (v2 : Int32) (v3 : Int32) (v4 : Int32) (v5 : Nat) : Option Int32 :=
  B_X1_stayAsked_48 k5 fl s v0 v1 v2 v3 v4 v5 (0 : Int32)
def B_X1_stayAsked_5 (fl : Nat) (s : Mem) : Nat → Nat → Int32 → Int32 → Int32 → Int32 → Option Int32
  | 0 => fun _ _ _ _ _ => none
  | n + 1 => fun v0 v1 v2 v3 v4 =>
    if (gI s v0 5) ≤ v4 then (
      some v3)
    else
    bd (ldA s v0 4 6) fun r4 =>
    gd (inR v4 r4.2) <|
    bd (ldO s r4.1 v4.toNatClampNeg 8) fun r7 =>
    if (gI s r7 1) < v1 then (
      B_X1_stayAsked_47 (B_X1_stayAsked_5 fl s n) fl s v0 v1 v2 v3 v4 r7)
    else
    if (v1 + v2) ≤ (gI s r7 0) then (
      B_X1_stayAsked_47 (B_X1_stayAsked_5 fl s n) fl s v0 v1 v2 v3 v4 r7)
    else
    B_X1_stayAsked_48 (B_X1_stayAsked_5 fl s n) fl s v0 v1 v2 v3 v4 r7 (1 : Int32)
def F_X1_stayAsked (fl : Nat) (v0 : Nat) (v1 : Int32) (v2 : Int32) (s : Mem) : Option Int32 :=
  B_X1_stayAsked_5 fl s fl v0 v1 v2 (1 : Int32) (0 : Int32)
def B_X1_isTooShort_34 (fl : Nat) (s : Mem) (v0 : Nat) (v1 : Nat) (w0 : Int32) : Option Int32 :=
  if w0 = 0 then (
    bd (F_X1_stayAsked fl v0 (gI s v1 4) (gI s v1 5) s) fun q2 =>
    if q2 ≤ (gI s v1 5) then (
      some (0 : Int32))
    else
    some (1 : Int32))
  else
  some (0 : Int32)
def B_X1_isTooShort_33 (fl : Nat) (s : Mem) (v0 : Nat) (v1 : Nat) : Option Int32 :=
  B_X1_isTooShort_34 fl s v0 v1 (0 : Int32)
def F_X1_isTooShort (fl : Nat) (v0 : Nat) (v1 : Nat) (v2 : Int64) (s : Mem) : Option Int32 :=
  bd (F_X7_holds fl v2 ((gI s v1 4) - (1 : Int32)) s) fun q5 =>
  if q5 = 0 then (
    B_X1_isTooShort_33 fl s v0 v1)
  else
  bd (F_X7_holds fl v2 ((gI s v1 4) + (gI s v1 5)) s) fun q8 =>
  if q8 = 0 then (
    B_X1_isTooShort_33 fl s v0 v1)
  else
  B_X1_isTooShort_34 fl s v0 v1 (1 : Int32)
def B_X1_gapEdges_8 (fl : Nat) (s : Mem) : Nat → Nat → Int64 → Int64 → Int64 → Int32 → Option Int64
  | 0 => fun _ _ _ _ _ => none
  | n + 1 => fun v0 v1 v3 v5 v7 =>
    if (gI s v0 7) < v7 then (
      some v3)
    else
    B_X1_gapEdges_8 fl s n v0 v1 (v3 ||| ((v5 &&& ((Int64.toUInt64 v1 >>> ((Int32.toInt64 v7).toUInt64 &&& Int64.toUInt64 63)).toInt64 ^^^ (-1 : Int64))) &&& (Int64.toUInt64 v1 >>> ((Int32.toInt64 (v7 + (1 : Int32))).toUInt64 &&& Int64.toUInt64 63)).toInt64)) (v5 &&& ((Int64.toUInt64 v1 >>> ((Int32.toInt64 v7).toUInt64 &&& Int64.toUInt64 63)).toInt64 ^^^ (-1 : Int64))) (v7 + (1 : Int32))
def F_X1_gapEdges (fl : Nat) (v0 : Nat) (v1 : Int64) (s : Mem) : Option Int64 :=
  B_X1_gapEdges_8 fl s fl v0 v1 (0 : Int64) v1 (1 : Int32)
def F_J13_bitCount_95d88 (fl : Nat) (v0 : Int64) (s : Mem) : Option Int32 :=
  some ((Int64.toInt32 ((((((((v0 - ((Int64.toUInt64 v0 >>> ((Int32.toInt64 (1 : Int32)).toUInt64 &&& Int64.toUInt64 63)).toInt64 &&& (6148914691236517205 : Int64))) &&& (3689348814741910323 : Int64)) + ((Int64.toUInt64 (v0 - ((Int64.toUInt64 v0 >>> ((Int32.toInt64 (1 : Int32)).toUInt64 &&& Int64.toUInt64 63)).toInt64 &&& (6148914691236517205 : Int64))) >>> ((Int32.toInt64 (2 : Int32)).toUInt64 &&& Int64.toUInt64 63)).toInt64 &&& (3689348814741910323 : Int64))) + (Int64.toUInt64 (((v0 - ((Int64.toUInt64 v0 >>> ((Int32.toInt64 (1 : Int32)).toUInt64 &&& Int64.toUInt64 63)).toInt64 &&& (6148914691236517205 : Int64))) &&& (3689348814741910323 : Int64)) + ((Int64.toUInt64 (v0 - ((Int64.toUInt64 v0 >>> ((Int32.toInt64 (1 : Int32)).toUInt64 &&& Int64.toUInt64 63)).toInt64 &&& (6148914691236517205 : Int64))) >>> ((Int32.toInt64 (2 : Int32)).toUInt64 &&& Int64.toUInt64 63)).toInt64 &&& (3689348814741910323 : Int64))) >>> ((Int32.toInt64 (4 : Int32)).toUInt64 &&& Int64.toUInt64 63)).toInt64) &&& (1085102592571150095 : Int64)) + (Int64.toUInt64 (((((v0 - ((Int64.toUInt64 v0 >>> ((Int32.toInt64 (1 : Int32)).toUInt64 &&& Int64.toUInt64 63)).toInt64 &&& (6148914691236517205 : Int64))) &&& (3689348814741910323 : Int64)) + ((Int64.toUInt64 (v0 - ((Int64.toUInt64 v0 >>> ((Int32.toInt64 (1 : Int32)).toUInt64 &&& Int64.toUInt64 63)).toInt64 &&& (6148914691236517205 : Int64))) >>> ((Int32.toInt64 (2 : Int32)).toUInt64 &&& Int64.toUInt64 63)).toInt64 &&& (3689348814741910323 : Int64))) + (Int64.toUInt64 (((v0 - ((Int64.toUInt64 v0 >>> ((Int32.toInt64 (1 : Int32)).toUInt64 &&& Int64.toUInt64 63)).toInt64 &&& (6148914691236517205 : Int64))) &&& (3689348814741910323 : Int64)) + ((Int64.toUInt64 (v0 - ((Int64.toUInt64 v0 >>> ((Int32.toInt64 (1 : Int32)).toUInt64 &&& Int64.toUInt64 63)).toInt64 &&& (6148914691236517205 : Int64))) >>> ((Int32.toInt64 (2 : Int32)).toUInt64 &&& Int64.toUInt64 63)).toInt64 &&& (3689348814741910323 : Int64))) >>> ((Int32.toInt64 (4 : Int32)).toUInt64 &&& Int64.toUInt64 63)).toInt64) &&& (1085102592571150095 : Int64)) >>> ((Int32.toInt64 (8 : Int32)).toUInt64 &&& Int64.toUInt64 63)).toInt64) + (Int64.toUInt64 ((((((v0 - ((Int64.toUInt64 v0 >>> ((Int32.toInt64 (1 : Int32)).toUInt64 &&& Int64.toUInt64 63)).toInt64 &&& (6148914691236517205 : Int64))) &&& (3689348814741910323 : Int64)) + ((Int64.toUInt64 (v0 - ((Int64.toUInt64 v0 >>> ((Int32.toInt64 (1 : Int32)).toUInt64 &&& Int64.toUInt64 63)).toInt64 &&& (6148914691236517205 : Int64))) >>> ((Int32.toInt64 (2 : Int32)).toUInt64 &&& Int64.toUInt64 63)).toInt64 &&& (3689348814741910323 : Int64))) + (Int64.toUInt64 (((v0 - ((Int64.toUInt64 v0 >>> ((Int32.toInt64 (1 : Int32)).toUInt64 &&& Int64.toUInt64 63)).toInt64 &&& (6148914691236517205 : Int64))) &&& (3689348814741910323 : Int64)) + ((Int64.toUInt64 (v0 - ((Int64.toUInt64 v0 >>> ((Int32.toInt64 (1 : Int32)).toUInt64 &&& Int64.toUInt64 63)).toInt64 &&& (6148914691236517205 : Int64))) >>> ((Int32.toInt64 (2 : Int32)).toUInt64 &&& Int64.toUInt64 63)).toInt64 &&& (3689348814741910323 : Int64))) >>> ((Int32.toInt64 (4 : Int32)).toUInt64 &&& Int64.toUInt64 63)).toInt64) &&& (1085102592571150095 : Int64)) + (Int64.toUInt64 (((((v0 - ((Int64.toUInt64 v0 >>> ((Int32.toInt64 (1 : Int32)).toUInt64 &&& Int64.toUInt64 63)).toInt64 &&& (6148914691236517205 : Int64))) &&& (3689348814741910323 : Int64)) + ((Int64.toUInt64 (v0 - ((Int64.toUInt64 v0 >>> ((Int32.toInt64 (1 : Int32)).toUInt64 &&& Int64.toUInt64 63)).toInt64 &&& (6148914691236517205 : Int64))) >>> ((Int32.toInt64 (2 : Int32)).toUInt64 &&& Int64.toUInt64 63)).toInt64 &&& (3689348814741910323 : Int64))) + (Int64.toUInt64 (((v0 - ((Int64.toUInt64 v0 >>> ((Int32.toInt64 (1 : Int32)).toUInt64 &&& Int64.toUInt64 63)).toInt64 &&& (6148914691236517205 : Int64))) &&& (3689348814741910323 : Int64)) + ((Int64.toUInt64 (v0 - ((Int64.toUInt64 v0 >>> ((Int32.toInt64 (1 : Int32)).toUInt64 &&& Int64.toUInt64 63)).toInt64 &&& (6148914691236517205 : Int64))) >>> ((Int32.toInt64 (2 : Int32)).toUInt64 &&& Int64.toUInt64 63)).toInt64 &&& (3689348814741910323 : Int64))) >>> ((Int32.toInt64 (4 : Int32)).toUInt64 &&& Int64.toUInt64 63)).toInt64) &&& (1085102592571150095 : Int64)) >>> ((Int32.toInt64 (8 : Int32)).toUInt64 &&& Int64.toUInt64 63)).toInt64) >>> ((Int32.toInt64 (16 : Int32)).toUInt64 &&& Int64.toUInt64 63)).toInt64) + (Int64.toUInt64 (((((((v0 - ((Int64.toUInt64 v0 >>> ((Int32.toInt64 (1 : Int32)).toUInt64 &&& Int64.toUInt64 63)).toInt64 &&& (6148914691236517205 : Int64))) &&& (3689348814741910323 : Int64)) + ((Int64.toUInt64 (v0 - ((Int64.toUInt64 v0 >>> ((Int32.toInt64 (1 : Int32)).toUInt64 &&& Int64.toUInt64 63)).toInt64 &&& (6148914691236517205 : Int64))) >>> ((Int32.toInt64 (2 : Int32)).toUInt64 &&& Int64.toUInt64 63)).toInt64 &&& (3689348814741910323 : Int64))) + (Int64.toUInt64 (((v0 - ((Int64.toUInt64 v0 >>> ((Int32.toInt64 (1 : Int32)).toUInt64 &&& Int64.toUInt64 63)).toInt64 &&& (6148914691236517205 : Int64))) &&& (3689348814741910323 : Int64)) + ((Int64.toUInt64 (v0 - ((Int64.toUInt64 v0 >>> ((Int32.toInt64 (1 : Int32)).toUInt64 &&& Int64.toUInt64 63)).toInt64 &&& (6148914691236517205 : Int64))) >>> ((Int32.toInt64 (2 : Int32)).toUInt64 &&& Int64.toUInt64 63)).toInt64 &&& (3689348814741910323 : Int64))) >>> ((Int32.toInt64 (4 : Int32)).toUInt64 &&& Int64.toUInt64 63)).toInt64) &&& (1085102592571150095 : Int64)) + (Int64.toUInt64 (((((v0 - ((Int64.toUInt64 v0 >>> ((Int32.toInt64 (1 : Int32)).toUInt64 &&& Int64.toUInt64 63)).toInt64 &&& (6148914691236517205 : Int64))) &&& (3689348814741910323 : Int64)) + ((Int64.toUInt64 (v0 - ((Int64.toUInt64 v0 >>> ((Int32.toInt64 (1 : Int32)).toUInt64 &&& Int64.toUInt64 63)).toInt64 &&& (6148914691236517205 : Int64))) >>> ((Int32.toInt64 (2 : Int32)).toUInt64 &&& Int64.toUInt64 63)).toInt64 &&& (3689348814741910323 : Int64))) + (Int64.toUInt64 (((v0 - ((Int64.toUInt64 v0 >>> ((Int32.toInt64 (1 : Int32)).toUInt64 &&& Int64.toUInt64 63)).toInt64 &&& (6148914691236517205 : Int64))) &&& (3689348814741910323 : Int64)) + ((Int64.toUInt64 (v0 - ((Int64.toUInt64 v0 >>> ((Int32.toInt64 (1 : Int32)).toUInt64 &&& Int64.toUInt64 63)).toInt64 &&& (6148914691236517205 : Int64))) >>> ((Int32.toInt64 (2 : Int32)).toUInt64 &&& Int64.toUInt64 63)).toInt64 &&& (3689348814741910323 : Int64))) >>> ((Int32.toInt64 (4 : Int32)).toUInt64 &&& Int64.toUInt64 63)).toInt64) &&& (1085102592571150095 : Int64)) >>> ((Int32.toInt64 (8 : Int32)).toUInt64 &&& Int64.toUInt64 63)).toInt64) + (Int64.toUInt64 ((((((v0 - ((Int64.toUInt64 v0 >>> ((Int32.toInt64 (1 : Int32)).toUInt64 &&& Int64.toUInt64 63)).toInt64 &&& (6148914691236517205 : Int64))) &&& (3689348814741910323 : Int64)) + ((Int64.toUInt64 (v0 - ((Int64.toUInt64 v0 >>> ((Int32.toInt64 (1 : Int32)).toUInt64 &&& Int64.toUInt64 63)).toInt64 &&& (6148914691236517205 : Int64))) >>> ((Int32.toInt64 (2 : Int32)).toUInt64 &&& Int64.toUInt64 63)).toInt64 &&& (3689348814741910323 : Int64))) + (Int64.toUInt64 (((v0 - ((Int64.toUInt64 v0 >>> ((Int32.toInt64 (1 : Int32)).toUInt64 &&& Int64.toUInt64 63)).toInt64 &&& (6148914691236517205 : Int64))) &&& (3689348814741910323 : Int64)) + ((Int64.toUInt64 (v0 - ((Int64.toUInt64 v0 >>> ((Int32.toInt64 (1 : Int32)).toUInt64 &&& Int64.toUInt64 63)).toInt64 &&& (6148914691236517205 : Int64))) >>> ((Int32.toInt64 (2 : Int32)).toUInt64 &&& Int64.toUInt64 63)).toInt64 &&& (3689348814741910323 : Int64))) >>> ((Int32.toInt64 (4 : Int32)).toUInt64 &&& Int64.toUInt64 63)).toInt64) &&& (1085102592571150095 : Int64)) + (Int64.toUInt64 (((((v0 - ((Int64.toUInt64 v0 >>> ((Int32.toInt64 (1 : Int32)).toUInt64 &&& Int64.toUInt64 63)).toInt64 &&& (6148914691236517205 : Int64))) &&& (3689348814741910323 : Int64)) + ((Int64.toUInt64 (v0 - ((Int64.toUInt64 v0 >>> ((Int32.toInt64 (1 : Int32)).toUInt64 &&& Int64.toUInt64 63)).toInt64 &&& (6148914691236517205 : Int64))) >>> ((Int32.toInt64 (2 : Int32)).toUInt64 &&& Int64.toUInt64 63)).toInt64 &&& (3689348814741910323 : Int64))) + (Int64.toUInt64 (((v0 - ((Int64.toUInt64 v0 >>> ((Int32.toInt64 (1 : Int32)).toUInt64 &&& Int64.toUInt64 63)).toInt64 &&& (6148914691236517205 : Int64))) &&& (3689348814741910323 : Int64)) + ((Int64.toUInt64 (v0 - ((Int64.toUInt64 v0 >>> ((Int32.toInt64 (1 : Int32)).toUInt64 &&& Int64.toUInt64 63)).toInt64 &&& (6148914691236517205 : Int64))) >>> ((Int32.toInt64 (2 : Int32)).toUInt64 &&& Int64.toUInt64 63)).toInt64 &&& (3689348814741910323 : Int64))) >>> ((Int32.toInt64 (4 : Int32)).toUInt64 &&& Int64.toUInt64 63)).toInt64) &&& (1085102592571150095 : Int64)) >>> ((Int32.toInt64 (8 : Int32)).toUInt64 &&& Int64.toUInt64 63)).toInt64) >>> ((Int32.toInt64 (16 : Int32)).toUInt64 &&& Int64.toUInt64 63)).toInt64) >>> ((Int32.toInt64 (32 : Int32)).toUInt64 &&& Int64.toUInt64 63)).toInt64)) &&& (127 : Int32))
def F_X1_countGaps (fl : Nat) (v0 : Nat) (v1 : Int64) (s : Mem) : Option Int32 :=
  bd (F_X1_gapEdges fl v0 v1 s) fun q1 =>
  bd (F_J13_bitCount_95d88 fl q1 s) fun q3 =>
  some q3
def F_X7_isCircuit (fl : Nat) (v0 : Int32) (s : Mem) : Option Int32 :=
  if v0 < 0 then (
    some (0 : Int32))
  else
  if (3 : Int32) ≤ v0 then (
    some (0 : Int32))
  else
  some (1 : Int32)
def B_X1_isPowerShort_15 (fl : Nat) (s : Mem) : Nat → Nat → Nat → Int32 → Int32 → Int32 → Option Int32
  | 0 => fun _ _ _ _ _ => none
  | n + 1 => fun v0 v1 v2 v3 v4 =>
    if ((gI s v1 4) + (gI s v1 5)) ≤ v4 then (
      some (0 : Int32))
    else
    bd (F_X1_powerUsed fl v0 v3 v4 v2 s) fun q2 =>
    bd (ldA s v0 6 0) fun r4 =>
    gd (inR v3 r4.2) <|
    if (q2 + (gI s v1 3)) ≤ (gI s r4.1 v3.toNatClampNeg) then (
      B_X1_isPowerShort_15 fl s n v0 v1 v2 v3 (v4 + (1 : Int32)))
    else
    some (1 : Int32)
def F_X1_isPowerShort (fl : Nat) (v0 : Nat) (v1 : Nat) (v2 : Int32) (v3 : Int32) (s : Mem) : Option Int32 :=
  bd (F_X7_isCircuit fl v3 s) fun q8 =>
  if q8 = 0 then (
    some (0 : Int32))
  else
  B_X1_isPowerShort_15 fl s fl v0 v1 v2 v3 (gI s v1 4)
def F_X1_obstacleOf (fl : Nat) (v0 : Nat) (v1 : Nat) (v2 : Int32) (v3 : Int32) (s : Mem) : Option Int32 :=
  bd (F_X1_hasFit fl v0 v1 v3 s) fun q1 =>
  if q1 = 0 then (
    some (1 : Int32))
  else
  bd (F_X1_busyNights fl v0 v3 v2 s) fun q4 =>
  if (lg_cmp (q4 &&& (gL s v1 6)) (0 : Int64)) = 0 then (
    bd (F_X1_circuitOf fl v0 v3 s) fun q7 =>
    bd (F_X1_isPowerShort fl v0 v1 v2 q7 s) fun q9 =>
    if q9 = 0 then (
      bd (F_X1_isTooShort fl v0 v1 q4 s) fun q12 =>
      if q12 = 0 then (
        bd (F_X1_countGaps fl v0 (q4 ||| (gL s v1 6)) s) fun q15 =>
        bd (F_X1_countGaps fl v0 q4 s) fun q17 =>
        if q15 ≤ q17 then (
          some (0 : Int32))
        else
        some (5 : Int32))
      else
      some (4 : Int32))
    else
    some (3 : Int32))
  else
  some (2 : Int32)
def F_J9_max_7cf53 (fl : Nat) (v0 : Int32) (v1 : Int32) (s : Mem) : Option Int32 :=
  if v0 < v1 then (
    some v1)
  else
  some v0
def B_X1_greatestObstacle_4 (fl : Nat) (s : Mem) : Nat → Nat → Nat → Int32 → Int32 → Option Int32
  | 0 => fun _ _ _ _ => none
  | n + 1 => fun v0 v1 v2 v3 =>
    if (gI s v0 1) ≤ v3 then (
      some v2)
    else
    bd (F_X1_obstacleOf fl v0 v1 (-1 : Int32) v3 s) fun q2 =>
    bd (F_J9_max_7cf53 fl v2 q2 s) fun q4 =>
    B_X1_greatestObstacle_4 fl s n v0 v1 q4 (v3 + (1 : Int32))
def F_X1_greatestObstacle (fl : Nat) (v0 : Nat) (v1 : Nat) (s : Mem) : Option Int32 :=
  B_X1_greatestObstacle_4 fl s fl v0 v1 (1 : Int32) (0 : Int32)
def B_X1_countArrivals_58 (k5 : Nat → Int32 → Int32 → Int32 → Int32 → Option Int32) (fl : Nat) (s : Mem) (v0 : Nat) (v1 : Int32) (v2 : Int32) (v3 : Int32) (v4 : Int32) : Option Int32 :=
  k5 v0 v1 v2 v3 (v4 + (1 : Int32))
def B_X1_countArrivals_5 (fl : Nat) (s : Mem) : Nat → Nat → Int32 → Int32 → Int32 → Int32 → Option Int32
  | 0 => fun _ _ _ _ _ => none
  | n + 1 => fun v0 v1 v2 v3 v4 =>
    if (gI s v0 3) ≤ v4 then (
      some v3)
    else
    bd (ldA s v0 2 5) fun r2 =>
    gd (inR v4 r2.2) <|
    bd (ldO s r2.1 v4.toNatClampNeg 5) fun r5 =>
    if (gI s r5 10) = 0 then (
      B_X1_countArrivals_58 (B_X1_countArrivals_5 fl s n) fl s v0 v1 v2 v3 v4)
    else
    bd (ldA s v0 2 5) fun r8 =>
    gd (inR v4 r8.2) <|
    bd (ldO s r8.1 v4.toNatClampNeg 5) fun r11 =>
    if (gI s r11 4) < v1 then (
      B_X1_countArrivals_58 (B_X1_countArrivals_5 fl s n) fl s v0 v1 v2 v3 v4)
    else
    bd (ldA s v0 2 5) fun r14 =>
    gd (inR v4 r14.2) <|
    bd (ldO s r14.1 v4.toNatClampNeg 5) fun r17 =>
    if v2 ≤ (gI s r17 4) then (
      B_X1_countArrivals_58 (B_X1_countArrivals_5 fl s n) fl s v0 v1 v2 v3 v4)
    else
    B_X1_countArrivals_58 (B_X1_countArrivals_5 fl s n) fl s v0 v1 v2 (v3 + (1 : Int32)) v4
def F_X1_countArrivals (fl : Nat) (v0 : Nat) (v1 : Int32) (v2 : Int32) (s : Mem) : Option Int32 :=
  B_X1_countArrivals_5 fl s fl v0 v1 v2 (0 : Int32) (0 : Int32)
def B_X1_countBooked_27 (k4 : Nat → Int32 → Int32 → Option Int32) (fl : Nat) (s : Mem) (v0 : Nat) (v1 : Int32) (v2 : Int32) : Option Int32 :=
  k4 v0 v1 (v2 + (1 : Int32))
def B_X1_countBooked_4 (fl : Nat) (s : Mem) : Nat → Nat → Int32 → Int32 → Option Int32
  | 0 => fun _ _ _ => none
  | n + 1 => fun v0 v1 v2 =>
    if (gI s v0 3) ≤ v2 then (
      some v1)
    else
    bd (ldA s v0 2 5) fun r2 =>
    gd (inR v2 r2.2) <|
    bd (ldO s r2.1 v2.toNatClampNeg 5) fun r5 =>
    if (gI s r5 10) = 0 then (
      B_X1_countBooked_27 (B_X1_countBooked_4 fl s n) fl s v0 v1 v2)
    else
    B_X1_countBooked_27 (B_X1_countBooked_4 fl s n) fl s v0 (v1 + (1 : Int32)) v2
def F_X1_countBooked (fl : Nat) (v0 : Nat) (s : Mem) : Option Int32 :=
  B_X1_countBooked_4 fl s fl v0 (0 : Int32) (0 : Int32)
def B_X1_sumPrices_36 (k4 : Nat → Int32 → Int32 → Option Int32) (fl : Nat) (s : Mem) (v0 : Nat) (v1 : Int32) (v2 : Int32) : Option Int32 :=
  k4 v0 v1 (v2 + (1 : Int32))
def B_X1_sumPrices_4 (fl : Nat) (s : Mem) : Nat → Nat → Int32 → Int32 → Option Int32
  | 0 => fun _ _ _ => none
  | n + 1 => fun v0 v1 v2 =>
    if (gI s v0 3) ≤ v2 then (
      some v1)
    else
    bd (ldA s v0 2 5) fun r2 =>
    gd (inR v2 r2.2) <|
    bd (ldO s r2.1 v2.toNatClampNeg 5) fun r5 =>
    if (gI s r5 10) = 0 then (
      B_X1_sumPrices_36 (B_X1_sumPrices_4 fl s n) fl s v0 v1 v2)
    else
    bd (ldA s v0 2 5) fun r8 =>
    gd (inR v2 r8.2) <|
    bd (ldO s r8.1 v2.toNatClampNeg 5) fun r11 =>
    B_X1_sumPrices_36 (B_X1_sumPrices_4 fl s n) fl s v0 (v1 + (gI s r11 8)) v2
def F_X1_sumPrices (fl : Nat) (v0 : Nat) (s : Mem) : Option Int32 :=
  B_X1_sumPrices_4 fl s fl v0 (0 : Int32) (0 : Int32)
def B_X1_sumFees_4 (fl : Nat) (s : Mem) : Nat → Nat → Int32 → Int32 → Option Int32
  | 0 => fun _ _ _ => none
  | n + 1 => fun v0 v1 v2 =>
    if (gI s v0 3) ≤ v2 then (
      some v1)
    else
    bd (ldA s v0 2 5) fun r2 =>
    gd (inR v2 r2.2) <|
    bd (ldO s r2.1 v2.toNatClampNeg 5) fun r5 =>
    B_X1_sumFees_4 fl s n v0 (v1 + (gI s r5 9)) (v2 + (1 : Int32))
def F_X1_sumFees (fl : Nat) (v0 : Nat) (s : Mem) : Option Int32 :=
  B_X1_sumFees_4 fl s fl v0 (0 : Int32) (0 : Int32)
def B_X1_countAllGaps_4 (fl : Nat) (s : Mem) : Nat → Nat → Int32 → Int32 → Option Int32
  | 0 => fun _ _ _ => none
  | n + 1 => fun v0 v1 v2 =>
    if (gI s v0 1) ≤ v2 then (
      some v1)
    else
    bd (F_X1_busyNights fl v0 v2 (-1 : Int32) s) fun q2 =>
    bd (F_X1_countGaps fl v0 q2 s) fun q4 =>
    B_X1_countAllGaps_4 fl s n v0 (v1 + q4) (v2 + (1 : Int32))
def F_X1_countAllGaps (fl : Nat) (v0 : Nat) (s : Mem) : Option Int32 :=
  B_X1_countAllGaps_4 fl s fl v0 (0 : Int32) (0 : Int32)
def B_X1_countAllBusyNights_4 (fl : Nat) (s : Mem) : Nat → Nat → Int32 → Int32 → Option Int32
  | 0 => fun _ _ _ => none
  | n + 1 => fun v0 v1 v2 =>
    if (gI s v0 1) ≤ v2 then (
      some v1)
    else
    bd (F_X1_busyNights fl v0 v2 (-1 : Int32) s) fun q2 =>
    bd (F_J13_bitCount_95d88 fl q2 s) fun q4 =>
    B_X1_countAllBusyNights_4 fl s n v0 (v1 + q4) (v2 + (1 : Int32))
def F_X1_countAllBusyNights (fl : Nat) (v0 : Nat) (s : Mem) : Option Int32 :=
  B_X1_countAllBusyNights_4 fl s fl v0 (0 : Int32) (0 : Int32)
def F_J9_min_7cf53 (fl : Nat) (v0 : Int32) (v1 : Int32) (s : Mem) : Option Int32 :=
  if v1 < v0 then (
    some v1)
  else
  some v0
def B_X2_keep_35 (fl : Nat) (v0 : Nat) (w0 : Nat) (w1 : Int32) (s : Mem) : Option Mem :=
  nx (pI s w0 1 w1) fun m1 =>
  bd (F_J9_min_7cf53 fl ((gI m1 v0 2) + (1 : Int32)) (8 : Int32) m1) fun q3 =>
  nx (pI m1 v0 2 q3) fun m5 =>
  some m5
def F_X2_keep (fl : Nat) (v0 : Nat) (v1 : Nat) (s : Mem) : Option Mem :=
  bd (ldA s v0 0 7) fun r7 =>
  gd (inR (gI s v0 1) r7.2) <|
  bd (ldO s r7.1 (gI s v0 1).toNatClampNeg 3) fun r10 =>
  bd (F_X1_copyFrom fl r10 v1 s) fun q12 =>
  if (8 : Int32) ≤ ((gI q12 v0 1) + (1 : Int32)) then (
    B_X2_keep_35 fl v0 v0 (0 : Int32) q12)
  else
  B_X2_keep_35 fl v0 v0 ((gI q12 v0 1) + (1 : Int32)) q12
def B_X2_takeBack_19 (fl : Nat) (v0 : Nat) (v1 : Nat) (w0 : Nat) (w1 : Int32) (s : Mem) : Option Mem :=
  nx (pI s w0 1 w1) fun m1 =>
  bd (ldA m1 v0 0 7) fun r3 =>
  gd (inR (gI m1 v0 1) r3.2) <|
  bd (ldO m1 r3.1 (gI m1 v0 1).toNatClampNeg 3) fun r6 =>
  bd (F_X1_copyFrom fl v1 r6 m1) fun q8 =>
  nx (pI q8 v0 2 ((gI q8 v0 2) - (1 : Int32))) fun m10 =>
  some m10
def F_X2_takeBack (fl : Nat) (v0 : Nat) (v1 : Nat) (s : Mem) : Option Mem :=
  if (gI s v0 1) ≤ 0 then (
    B_X2_takeBack_19 fl v0 v1 v0 (7 : Int32) s)
  else
  B_X2_takeBack_19 fl v0 v1 v0 ((gI s v0 1) - (1 : Int32)) s
def F_X7_stayOf (fl : Nat) (v0 : Int32) (v1 : Int32) (s : Mem) : Option Int64 :=
  some ((((1 : Int64) <<< (Int32.toInt64 v1 &&& 63)) - (1 : Int64)) <<< (Int32.toInt64 v0 &&& 63))
def F_X3_describe (fl : Nat) (v0 : Nat) (v1 : Int32) (v2 : Int32) (v3 : Int32) (v4 : Int32) (v5 : Int32) (v6 : Int32) (s : Mem) : Option Mem :=
  nx (pI s v0 0 v1) fun m1 =>
  nx (pI m1 v0 1 v2) fun m3 =>
  nx (pI m3 v0 2 v3) fun m5 =>
  nx (pI m5 v0 3 v4) fun m7 =>
  nx (pI m7 v0 4 v5) fun m9 =>
  nx (pI m9 v0 5 v6) fun m11 =>
  bd (F_X7_stayOf fl v5 v6 m11) fun q13 =>
  nx (pL m11 v0 6 q13) fun m15 =>
  nx (pI m15 v0 7 (-1 : Int32)) fun m17 =>
  nx (pI m17 v0 8 (0 : Int32)) fun m19 =>
  nx (pI m19 v0 9 (0 : Int32)) fun m21 =>
  nx (pI m21 v0 10 (0 : Int32)) fun m23 =>
  some m23
def F_X3_feeAt (fl : Nat) (v0 : Nat) (v1 : Int32) (s : Mem) : Option Int32 :=
  if ((gI s v0 4) - v1) < (7 : Int32) then (
    if ((gI s v0 4) - v1) < (3 : Int32) then (
      some (gI s v0 8))
    else
    some ((gI s v0 8) / (2 : Int32)))
  else
  some (0 : Int32)
def B_X5_addLoad_5 (fl : Nat) : Nat → Nat → Int32 → Nat → Int32 → Mem → Option Mem
  | 0 => fun _ _ _ _ _ => none
  | n + 1 => fun v0 v1 v2 v3 s =>
    if ((gI s v2 4) + (gI s v2 5)) ≤ v3 then (
      some s)
    else
    bd (ldA s v0 12 0) fun r2 =>
    gd (inR ((v1 * (60 : Int32)) + v3) r2.2) <|
    gd (inR ((v1 * (60 : Int32)) + v3) r2.2) <|
    nx (pI s r2.1 ((v1 * (60 : Int32)) + v3).toNatClampNeg ((gI s r2.1 ((v1 * (60 : Int32)) + v3).toNatClampNeg) + (gI s v2 3))) fun m6 =>
    B_X5_addLoad_5 fl n v0 v1 v2 (v3 + (1 : Int32)) m6
def F_X5_addLoad (fl : Nat) (v0 : Nat) (v1 : Int32) (v2 : Nat) (s : Mem) : Option Mem :=
  B_X5_addLoad_5 fl fl v0 v1 v2 (gI s v2 4) s
def B_X5_survey_113 (k60 : Nat → Int32 → Mem → Option Mem) (fl : Nat) (v0 : Nat) (v1 : Int32) (s : Mem) : Option Mem :=
  k60 v0 (v1 + (1 : Int32)) s
def B_X5_survey_60 (fl : Nat) : Nat → Nat → Int32 → Mem → Option Mem
  | 0 => fun _ _ _ => none
  | n + 1 => fun v0 v1 s =>
    bd (ldO s v0 0 3) fun r1 =>
    if (gI s r1 3) ≤ v1 then (
      some s)
    else
    bd (ldO s v0 0 3) fun r4 =>
    bd (ldA s r4 2 5) fun r6 =>
    gd (inR v1 r6.2) <|
    bd (ldO s r6.1 v1.toNatClampNeg 5) fun r9 =>
    bd (ldO s v0 0 3) fun r11 =>
    bd (F_X1_circuitOf fl r11 (gI s r9 7) s) fun q13 =>
    if (gI s r9 10) = 0 then (
      B_X5_survey_113 (B_X5_survey_60 fl n) fl v0 v1 s)
    else
    bd (F_X7_isCircuit fl q13 s) fun q16 =>
    if q16 = 0 then (
      B_X5_survey_113 (B_X5_survey_60 fl n) fl v0 v1 s)
    else
    bd (F_X5_addLoad fl v0 q13 r9 s) fun q19 =>
    B_X5_survey_113 (B_X5_survey_60 fl n) fl v0 v1 q19
def B_X5_survey_36 (fl : Nat) : Nat → Nat → Int32 → Mem → Option Mem
  | 0 => fun _ _ _ => none
  | n + 1 => fun v0 v1 s =>
    bd (ldA s v0 12 0) fun r21 =>
    if (nI r21.2) ≤ v1 then (
      B_X5_survey_60 fl fl v0 (0 : Int32) s)
    else
    bd (ldA s v0 12 0) fun r24 =>
    gd (inR v1 r24.2) <|
    nx (pI s r24.1 v1.toNatClampNeg (0 : Int32)) fun m27 =>
    B_X5_survey_36 fl n v0 (v1 + (1 : Int32)) m27
def B_X5_survey_2 (fl : Nat) : Nat → Nat → Int32 → Mem → Option Mem
  | 0 => fun _ _ _ => none
  | n + 1 => fun v0 v1 s =>
    bd (ldO s v0 0 3) fun r29 =>
    if (gI s r29 1) ≤ v1 then (
      B_X5_survey_36 fl fl v0 (0 : Int32) s)
    else
    bd (ldA s v0 10 1) fun r32 =>
    bd (ldO s v0 0 3) fun r34 =>
    bd (F_X1_busyNights fl r34 v1 (-1 : Int32) s) fun q36 =>
    gd (inR v1 r32.2) <|
    nx (pL s r32.1 v1.toNatClampNeg q36) fun m39 =>
    B_X5_survey_2 fl n v0 (v1 + (1 : Int32)) m39
def F_X5_survey (fl : Nat) (v0 : Nat) (s : Mem) : Option Mem :=
  B_X5_survey_2 fl fl v0 (0 : Int32) s
def B_X5_sortPitches_65 (k2 : Nat → Int32 → Mem → Option Mem) (fl : Nat) (v0 : Nat) (v1 : Int32) (v2 : Int32) (s : Mem) : Option Mem :=
  bd (ldA s v0 13 0) fun r1 =>
  gd (inR v2 r1.2) <|
  nx (pI s r1.1 v2.toNatClampNeg v1) fun m4 =>
  k2 v0 (v1 + (1 : Int32)) m4
def B_X5_sortPitches_15 (k2 : Nat → Int32 → Mem → Option Mem) (fl : Nat) : Nat → Nat → Int32 → Int32 → Mem → Option Mem
  | 0 => fun _ _ _ _ => none
  | n + 1 => fun v0 v1 v2 s =>
    if v2 ≤ 0 then (
      B_X5_sortPitches_65 k2 fl v0 v1 v2 s)
    else
    bd (ldO s v0 0 3) fun r7 =>
    bd (ldA s v0 13 0) fun r9 =>
    gd (inR (v2 - (1 : Int32)) r9.2) <|
    bd (F_X1_areaOf fl r7 (gI s r9.1 (v2 - (1 : Int32)).toNatClampNeg) s) fun q12 =>
    bd (ldO s v0 0 3) fun r14 =>
    bd (F_X1_areaOf fl r14 v1 s) fun q16 =>
    if q12 ≤ q16 then (
      B_X5_sortPitches_65 k2 fl v0 v1 v2 s)
    else
    bd (ldA s v0 13 0) fun r19 =>
    bd (ldA s v0 13 0) fun r21 =>
    gd (inR (v2 - (1 : Int32)) r21.2) <|
    gd (inR v2 r19.2) <|
    nx (pI s r19.1 v2.toNatClampNeg (gI s r21.1 (v2 - (1 : Int32)).toNatClampNeg)) fun m25 =>
    B_X5_sortPitches_15 k2 fl n v0 v1 (v2 + (-1 : Int32)) m25
def B_X5_sortPitches_2 (fl : Nat) : Nat → Nat → Int32 → Mem → Option Mem
  | 0 => fun _ _ _ => none
  | n + 1 => fun v0 v1 s =>
    bd (ldO s v0 0 3) fun r27 =>
    if (gI s r27 1) ≤ v1 then (
      some s)
    else
    B_X5_sortPitches_15 (B_X5_sortPitches_2 fl n) fl fl v0 v1 v1 s
def F_X5_sortPitches (fl : Nat) (v0 : Nat) (s : Mem) : Option Mem :=
  B_X5_sortPitches_2 fl fl v0 (0 : Int32) s
def F_X5_isInTheWay (fl : Nat) (v0 : Nat) (v1 : Nat) (s : Mem) : Option Int32 :=
  bd (ldA s v0 6 0) fun r1 =>
  gd (inR (0 : Int32) r1.2) <|
  bd (F_X3_isOn fl v1 (gI s r1.1 (0 : Int32).toNatClampNeg) s) fun q4 =>
  if q4 = 0 then (
    some (0 : Int32))
  else
  bd (ldO s v0 1 5) fun r7 =>
  if (lg_cmp ((gL s v1 6) &&& (gL s r7 6)) (0 : Int64)) = 0 then (
    some (0 : Int32))
  else
  some (1 : Int32)
def B_X5_chooseGoal_67 (k30 : Nat → Int32 → Int32 → Mem → Option (Int32 × Mem)) (fl : Nat) (v0 : Nat) (v1 : Int32) (v2 : Int32) (s : Mem) : Option (Int32 × Mem) :=
  k30 v0 v1 (v2 + (1 : Int32)) s
def B_X5_chooseGoal_30 (fl : Nat) : Nat → Nat → Int32 → Int32 → Mem → Option (Int32 × Mem)
  | 0 => fun _ _ _ _ => none
  | n + 1 => fun v0 v1 v2 s =>
    bd (ldO s v0 0 3) fun r1 =>
    if (gI s r1 3) ≤ v2 then (
      bd (ldA s v0 9 0) fun r4 =>
      gd (inR (0 : Int32) r4.2) <|
      if (gI s v0 2) < (gI s r4.1 (0 : Int32).toNatClampNeg) then (
        some ((0 : Int32), s))
      else
      bd (ldO s v0 0 3) fun r8 =>
      bd (ldO s v0 1 5) fun r10 =>
      bd (F_X1_hasFit fl r8 r10 v1 s) fun q12 =>
      if q12 = 0 then (
        some ((0 : Int32), s))
      else
      some ((1 : Int32), s))
    else
    bd (ldO s v0 0 3) fun r15 =>
    bd (ldA s r15 2 5) fun r17 =>
    gd (inR v2 r17.2) <|
    bd (ldO s r17.1 v2.toNatClampNeg 5) fun r20 =>
    bd (F_X5_isInTheWay fl v0 r20 s) fun q22 =>
    if q22 = 0 then (
      B_X5_chooseGoal_67 (B_X5_chooseGoal_30 fl n) fl v0 v1 v2 s)
    else
    bd (ldA s v0 9 0) fun r25 =>
    gd (inR (0 : Int32) r25.2) <|
    gd (inR (0 : Int32) r25.2) <|
    nx (pI s r25.1 (0 : Int32).toNatClampNeg ((gI s r25.1 (0 : Int32).toNatClampNeg) + (1 : Int32))) fun m29 =>
    B_X5_chooseGoal_67 (B_X5_chooseGoal_30 fl n) fl v0 v1 v2 m29
def F_X5_chooseGoal (fl : Nat) (v0 : Nat) (v1 : Int32) (s : Mem) : Option (Int32 × Mem) :=
  bd (ldA s v0 6 0) fun r31 =>
  gd (inR (0 : Int32) r31.2) <|
  nx (pI s r31.1 (0 : Int32).toNatClampNeg v1) fun m34 =>
  bd (ldA m34 v0 8 0) fun r36 =>
  bd (ldO m34 v0 0 3) fun r38 =>
  bd (F_X1_circuitOf fl r38 v1 m34) fun q40 =>
  gd (inR (0 : Int32) r36.2) <|
  nx (pI m34 r36.1 (0 : Int32).toNatClampNeg q40) fun m43 =>
  bd (ldA m43 v0 9 0) fun r45 =>
  gd (inR (0 : Int32) r45.2) <|
  nx (pI m43 r45.1 (0 : Int32).toNatClampNeg (0 : Int32)) fun m48 =>
  B_X5_chooseGoal_30 fl fl v0 v1 (0 : Int32) m48
def B_X5_seatAll_76 (fl : Nat) : Nat → Nat → Int32 → Mem → Option (Int32 × Mem)
  | 0 => fun _ _ _ => none
  | n + 1 => fun v0 v1 s =>
    if (gI s v0 2) < v1 then (
      some ((1 : Int32), s))
    else
    bd (ldA s v0 11 1) fun r2 =>
    bd (ldA s v0 6 0) fun r4 =>
    gd (inR v1 r4.2) <|
    gd (inR (gI s r4.1 v1.toNatClampNeg) r2.2) <|
    bd (ldA s v0 3 5) fun r8 =>
    gd (inR v1 r8.2) <|
    bd (ldO s r8.1 v1.toNatClampNeg 5) fun r11 =>
    if (lg_cmp ((gL s r2.1 (gI s r4.1 v1.toNatClampNeg).toNatClampNeg) &&& (gL s r11 6)) (0 : Int64)) = 0 then (
      bd (ldA s v0 11 1) fun r14 =>
      bd (ldA s v0 6 0) fun r16 =>
      gd (inR v1 r16.2) <|
      gd (inR (gI s r16.1 v1.toNatClampNeg) r14.2) <|
      bd (ldA s v0 3 5) fun r20 =>
      gd (inR v1 r20.2) <|
      bd (ldO s r20.1 v1.toNatClampNeg 5) fun r23 =>
      gd (inR (gI s r16.1 v1.toNatClampNeg) r14.2) <|
      nx (pL s r14.1 (gI s r16.1 v1.toNatClampNeg).toNatClampNeg ((gL s r14.1 (gI s r16.1 v1.toNatClampNeg).toNatClampNeg) ||| (gL s r23 6))) fun m26 =>
      B_X5_seatAll_76 fl n v0 (v1 + (1 : Int32)) m26)
    else
    some ((0 : Int32), s)
def B_X5_seatAll_33 (fl : Nat) : Nat → Nat → Int32 → Mem → Option (Int32 × Mem)
  | 0 => fun _ _ _ => none
  | n + 1 => fun v0 v1 s =>
    if (gI s v0 2) < v1 then (
      B_X5_seatAll_76 fl fl v0 (0 : Int32) s)
    else
    bd (ldA s v0 11 1) fun r29 =>
    bd (ldA s v0 5 0) fun r31 =>
    gd (inR v1 r31.2) <|
    gd (inR (gI s r31.1 v1.toNatClampNeg) r29.2) <|
    bd (ldA s v0 3 5) fun r35 =>
    gd (inR v1 r35.2) <|
    bd (ldO s r35.1 v1.toNatClampNeg 5) fun r38 =>
    gd (inR (gI s r31.1 v1.toNatClampNeg) r29.2) <|
    nx (pL s r29.1 (gI s r31.1 v1.toNatClampNeg).toNatClampNeg ((gL s r29.1 (gI s r31.1 v1.toNatClampNeg).toNatClampNeg) &&& ((gL s r38 6) ^^^ (-1 : Int64)))) fun m41 =>
    B_X5_seatAll_33 fl n v0 (v1 + (1 : Int32)) m41
def B_X5_seatAll_2 (fl : Nat) : Nat → Nat → Int32 → Mem → Option (Int32 × Mem)
  | 0 => fun _ _ _ => none
  | n + 1 => fun v0 v1 s =>
    bd (ldO s v0 0 3) fun r43 =>
    if (gI s r43 1) ≤ v1 then (
      B_X5_seatAll_33 fl fl v0 (1 : Int32) s)
    else
    bd (ldA s v0 11 1) fun r46 =>
    bd (ldA s v0 10 1) fun r48 =>
    gd (inR v1 r48.2) <|
    gd (inR v1 r46.2) <|
    nx (pL s r46.1 v1.toNatClampNeg (gL s r48.1 v1.toNatClampNeg)) fun m52 =>
    B_X5_seatAll_2 fl n v0 (v1 + (1 : Int32)) m52
def F_X5_seatAll (fl : Nat) (v0 : Nat) (s : Mem) : Option (Int32 × Mem) :=
  B_X5_seatAll_2 fl fl v0 (0 : Int32) s
def B_X5_plannedLoad_99 (k15 : Nat → Int32 → Int32 → Int32 → Int32 → Option Int32) (fl : Nat) (s : Mem) (v0 : Nat) (v1 : Int32) (v2 : Int32) (v3 : Int32) (v4 : Int32) : Option Int32 :=
  k15 v0 v1 v2 v3 (v4 + (1 : Int32))
def B_X5_plannedLoad_97 (k15 : Nat → Int32 → Int32 → Int32 → Int32 → Option Int32) (fl : Nat) (s : Mem) (v0 : Nat) (v1 : Int32) (v2 : Int32) (v4 : Int32) (w0 : Int32) (w1 : Int32) : Option Int32 :=
  B_X5_plannedLoad_99 k15 fl s v0 v1 v2 (w0 - w1) v4
def B_X5_plannedLoad_69 (k15 : Nat → Int32 → Int32 → Int32 → Int32 → Option Int32) (fl : Nat) (s : Mem) (v0 : Nat) (v1 : Int32) (v2 : Int32) (v4 : Int32) (w0 : Int32) (w1 : Int32) : Option Int32 :=
  bd (ldA s v0 7 0) fun r1 =>
  gd (inR v4 r1.2) <|
  if (gI s r1.1 v4.toNatClampNeg) = v1 then (
    bd (ldA s v0 3 5) fun r5 =>
    gd (inR v4 r5.2) <|
    bd (ldO s r5.1 v4.toNatClampNeg 5) fun r8 =>
    B_X5_plannedLoad_97 k15 fl s v0 v1 v2 v4 (w0 + w1) (gI s r8 3))
  else
  B_X5_plannedLoad_97 k15 fl s v0 v1 v2 v4 (w0 + w1) (0 : Int32)
def B_X5_plannedLoad_15 (fl : Nat) (s : Mem) : Nat → Nat → Int32 → Int32 → Int32 → Int32 → Option Int32
  | 0 => fun _ _ _ _ _ => none
  | n + 1 => fun v0 v1 v2 v3 v4 =>
    if (gI s v0 2) < v4 then (
      some v3)
    else
    bd (ldA s v0 3 5) fun r11 =>
    gd (inR v4 r11.2) <|
    bd (ldO s r11.1 v4.toNatClampNeg 5) fun r14 =>
    if (lg_cmp ((Int64.toUInt64 (gL s r14 6) >>> ((Int32.toInt64 v2).toUInt64 &&& Int64.toUInt64 63)).toInt64 &&& (1 : Int64)) (0 : Int64)) = 0 then (
      B_X5_plannedLoad_99 (B_X5_plannedLoad_15 fl s n) fl s v0 v1 v2 v3 v4)
    else
    bd (ldA s v0 8 0) fun r17 =>
    gd (inR v4 r17.2) <|
    if (gI s r17.1 v4.toNatClampNeg) = v1 then (
      bd (ldA s v0 3 5) fun r21 =>
      gd (inR v4 r21.2) <|
      bd (ldO s r21.1 v4.toNatClampNeg 5) fun r24 =>
      B_X5_plannedLoad_69 (B_X5_plannedLoad_15 fl s n) fl s v0 v1 v2 v4 v3 (gI s r24 3))
    else
    B_X5_plannedLoad_69 (B_X5_plannedLoad_15 fl s n) fl s v0 v1 v2 v4 v3 (0 : Int32)
def F_X5_plannedLoad (fl : Nat) (v0 : Nat) (v1 : Int32) (v2 : Int32) (s : Mem) : Option Int32 :=
  bd (ldA s v0 12 0) fun r26 =>
  gd (inR ((v1 * (60 : Int32)) + v2) r26.2) <|
  B_X5_plannedLoad_15 fl s fl v0 v1 v2 (gI s r26.1 ((v1 * (60 : Int32)) + v2).toNatClampNeg) (0 : Int32)
def B_X5_hasPower_55 (k2 : Nat → Int32 → Option Int32) (fl : Nat) (s : Mem) : Nat → Nat → Int32 → Int32 → Int32 → Int32 → Option Int32
  | 0 => fun _ _ _ _ _ => none
  | n + 1 => fun v0 v1 v2 v4 v5 =>
    if v4 ≤ v5 then (
      k2 v0 (v1 + (1 : Int32)))
    else
    bd (F_X5_plannedLoad fl v0 v2 v5 s) fun q2 =>
    bd (ldO s v0 0 3) fun r4 =>
    bd (ldA s r4 6 0) fun r6 =>
    gd (inR v2 r6.2) <|
    if q2 ≤ (gI s r6.1 v2.toNatClampNeg) then (
      B_X5_hasPower_55 k2 fl s n v0 v1 v2 v4 (v5 + (1 : Int32)))
    else
    some (0 : Int32)
def B_X5_hasPower_47 (k2 : Nat → Int32 → Option Int32) (fl : Nat) (s : Mem) (v0 : Nat) (v1 : Int32) (v2 : Int32) (v3 : Nat) (w0 : Int32) : Option Int32 :=
  B_X5_hasPower_55 k2 fl s fl v0 v1 v2 w0 (gI s v3 4)
def B_X5_hasPower_2 (fl : Nat) (s : Mem) : Nat → Nat → Int32 → Option Int32
  | 0 => fun _ _ => none
  | n + 1 => fun v0 v1 =>
    if (gI s v0 2) < v1 then (
      some (1 : Int32))
    else
    bd (ldA s v0 8 0) fun r11 =>
    gd (inR v1 r11.2) <|
    bd (ldA s v0 3 5) fun r14 =>
    gd (inR v1 r14.2) <|
    bd (ldO s r14.1 v1.toNatClampNeg 5) fun r17 =>
    bd (F_X7_isCircuit fl (gI s r11.1 v1.toNatClampNeg) s) fun q19 =>
    if q19 = 0 then (
      B_X5_hasPower_47 (B_X5_hasPower_2 fl s n) fl s v0 v1 (gI s r11.1 v1.toNatClampNeg) r17 (gI s r17 4))
    else
    B_X5_hasPower_47 (B_X5_hasPower_2 fl s n) fl s v0 v1 (gI s r11.1 v1.toNatClampNeg) r17 ((gI s r17 4) + (gI s r17 5))
def F_X5_hasPower (fl : Nat) (v0 : Nat) (s : Mem) : Option Int32 :=
  B_X5_hasPower_2 fl s fl v0 (0 : Int32)
def B_X5_makesGaps_67 (k4 : Nat → Int32 → Int32 → Option Int32) (fl : Nat) (s : Mem) (v0 : Nat) (v1 : Int32) (v2 : Int32) : Option Int32 :=
  k4 v0 v1 (v2 + (1 : Int32))
def B_X5_makesGaps_4 (fl : Nat) (s : Mem) : Nat → Nat → Int32 → Int32 → Option Int32
  | 0 => fun _ _ _ => none
  | n + 1 => fun v0 v1 v2 =>
    bd (ldO s v0 0 3) fun r1 =>
    if (gI s r1 1) ≤ v2 then (
      if v1 ≤ 0 then (
        some (0 : Int32))
      else
      some (1 : Int32))
    else
    bd (ldA s v0 11 1) fun r5 =>
    gd (inR v2 r5.2) <|
    bd (ldA s v0 10 1) fun r8 =>
    gd (inR v2 r8.2) <|
    if (lg_cmp (gL s r5.1 v2.toNatClampNeg) (gL s r8.1 v2.toNatClampNeg)) = 0 then (
      B_X5_makesGaps_67 (B_X5_makesGaps_4 fl s n) fl s v0 v1 v2)
    else
    bd (ldO s v0 0 3) fun r12 =>
    bd (ldA s v0 11 1) fun r14 =>
    gd (inR v2 r14.2) <|
    bd (F_X1_gapEdges fl r12 (gL s r14.1 v2.toNatClampNeg) s) fun q17 =>
    bd (F_J13_bitCount_95d88 fl q17 s) fun q19 =>
    bd (ldO s v0 0 3) fun r21 =>
    bd (ldA s v0 10 1) fun r23 =>
    gd (inR v2 r23.2) <|
    bd (F_X1_gapEdges fl r21 (gL s r23.1 v2.toNatClampNeg) s) fun q26 =>
    bd (F_J13_bitCount_95d88 fl q26 s) fun q28 =>
    B_X5_makesGaps_67 (B_X5_makesGaps_4 fl s n) fl s v0 (v1 + (q19 - q28)) v2
def F_X5_makesGaps (fl : Nat) (v0 : Nat) (s : Mem) : Option Int32 :=
  B_X5_makesGaps_4 fl s fl v0 (0 : Int32) (0 : Int32)
def F_X5_isRight (fl : Nat) (v0 : Nat) (s : Mem) : Option (Int32 × Mem) :=
  bd (F_X5_seatAll fl v0 s) fun q1 =>
  if q1.1 = 0 then (
    some ((0 : Int32), q1.2))
  else
  bd (ldO q1.2 v0 0 3) fun r4 =>
  bd (ldO q1.2 v0 1 5) fun r6 =>
  bd (ldA q1.2 v0 11 1) fun r8 =>
  bd (ldA q1.2 v0 6 0) fun r10 =>
  gd (inR (0 : Int32) r10.2) <|
  gd (inR (gI q1.2 r10.1 (0 : Int32).toNatClampNeg) r8.2) <|
  bd (F_X1_isTooShort fl r4 r6 (gL q1.2 r8.1 (gI q1.2 r10.1 (0 : Int32).toNatClampNeg).toNatClampNeg) q1.2) fun q14 =>
  if q14 = 0 then (
    bd (F_X5_hasPower fl v0 q1.2) fun q17 =>
    if q17 = 0 then (
      some ((0 : Int32), q1.2))
    else
    bd (F_X5_makesGaps fl v0 q1.2) fun q20 =>
    if q20 = 0 then (
      some ((1 : Int32), q1.2))
    else
    some ((0 : Int32), q1.2))
  else
  some ((0 : Int32), q1.2)
def B_X5_chooseMove_76 (fl : Nat) (v0 : Nat) (v1 : Int32) (v2 : Int32) (v3 : Int32) (v4 : Nat) (w0 : Nat) (w1 : Int32) (w2 : Int32) (w3 : Int32) (s : Mem) : Option (Int32 × Mem) :=
  bd (aLen w0 0) fun N1 =>
  gd (inR w1 N1) <|
  nx (pI s w0 w1.toNatClampNeg (w2 - w3)) fun m4 =>
  bd (ldA m4 v0 9 0) fun r6 =>
  gd (inR v1 r6.2) <|
  if ((gI m4 v0 2) - v1) < (gI m4 r6.1 v1.toNatClampNeg) then (
    some ((0 : Int32), m4))
  else
  bd (ldO m4 v0 0 3) fun r10 =>
  bd (F_X1_hasFit fl r10 v4 v3 m4) fun q12 =>
  if q12 = 0 then (
    some ((0 : Int32), m4))
  else
  bd (ldA m4 v0 3 5) fun r15 =>
  gd (inR v1 r15.2) <|
  nx (pR m4 r15.1 v1.toNatClampNeg (some v4)) fun m18 =>
  bd (ldA m18 v0 4 0) fun r20 =>
  gd (inR v1 r20.2) <|
  nx (pI m18 r20.1 v1.toNatClampNeg v2) fun m23 =>
  bd (ldA m23 v0 5 0) fun r25 =>
  gd (inR v1 r25.2) <|
  nx (pI m23 r25.1 v1.toNatClampNeg (gI m23 v4 7)) fun m28 =>
  bd (ldA m28 v0 6 0) fun r30 =>
  gd (inR v1 r30.2) <|
  nx (pI m28 r30.1 v1.toNatClampNeg v3) fun m33 =>
  bd (ldA m33 v0 7 0) fun r35 =>
  bd (ldO m33 v0 0 3) fun r37 =>
  bd (F_X1_circuitOf fl r37 (gI m33 v4 7) m33) fun q39 =>
  gd (inR v1 r35.2) <|
  nx (pI m33 r35.1 v1.toNatClampNeg q39) fun m42 =>
  bd (ldA m42 v0 8 0) fun r44 =>
  bd (ldO m42 v0 0 3) fun r46 =>
  bd (F_X1_circuitOf fl r46 v3 m42) fun q48 =>
  gd (inR v1 r44.2) <|
  nx (pI m42 r44.1 v1.toNatClampNeg q48) fun m51 =>
  some ((1 : Int32), m51)
def F_X5_chooseMove (fl : Nat) (v0 : Nat) (v1 : Int32) (v2 : Int32) (v3 : Int32) (s : Mem) : Option (Int32 × Mem) :=
  bd (ldO s v0 0 3) fun r53 =>
  bd (ldA s r53 2 5) fun r55 =>
  gd (inR v2 r55.2) <|
  bd (ldO s r55.1 v2.toNatClampNeg 5) fun r58 =>
  bd (ldO s v0 0 3) fun r60 =>
  bd (F_X1_isStillToCome fl r60 r58 s) fun q62 =>
  if q62 = 0 then (
    some ((0 : Int32), s))
  else
  bd (ldO s v0 0 3) fun r65 =>
  bd (F_X1_hasPitch fl r65 (gI s r58 7) s) fun q67 =>
  if q67 = 0 then (
    some ((0 : Int32), s))
  else
  if (gI s r58 7) = v3 then (
    some ((0 : Int32), s))
  else
  bd (ldA s v0 9 0) fun r71 =>
  bd (ldA s v0 9 0) fun r73 =>
  gd (inR (v1 - (1 : Int32)) r73.2) <|
  bd (F_X5_isInTheWay fl v0 r58 s) fun q76 =>
  if q76 = 0 then (
    B_X5_chooseMove_76 fl v0 v1 v2 v3 r58 r71.1 v1 (gI s r73.1 (v1 - (1 : Int32)).toNatClampNeg) (0 : Int32) s)
  else
  B_X5_chooseMove_76 fl v0 v1 v2 v3 r58 r71.1 v1 (gI s r73.1 (v1 - (1 : Int32)).toNatClampNeg) (1 : Int32) s
def B_X5_findMoves_128 (k25 : Nat → Int32 → Int32 → Mem → Option (Int32 × Mem)) (fl : Nat) (v0 : Nat) (v1 : Int32) (v2 : Int32) (s : Mem) : Option (Int32 × Mem) :=
  k25 v0 v1 (v2 + (1 : Int32)) s
def B_X5_findMoves_122 (k25 : Nat → Int32 → Int32 → Mem → Option (Int32 × Mem)) (k81 : Nat → Int32 → Int32 → Int32 → Mem → Option (Int32 × Mem)) (fl : Nat) (v0 : Nat) (v1 : Int32) (v2 : Int32) (v4 : Int32) (s : Mem) : Option (Int32 × Mem) :=
  k81 v0 v1 v2 (v4 + (1 : Int32)) s
def B_X5_findMoves_81 (k25 : Nat → Int32 → Int32 → Mem → Option (Int32 × Mem)) (fl : Nat) : Nat → Nat → Int32 → Int32 → Int32 → Mem → Option (Int32 × Mem)
  | 0 => fun _ _ _ _ _ => none
  | n + 1 => fun v0 v1 v2 v4 s =>
    if (gI s v0 2) = (2 : Int32) then (
      if v1 ≤ v4 then (
        B_X5_findMoves_128 k25 fl v0 v1 v2 s)
      else
      bd (F_X5_chooseMove fl v0 (2 : Int32) (v4 / (6 : Int32)) (v4 - v4 / (6 : Int32) * (6 : Int32)) s) fun q3 =>
      if q3.1 = 0 then (
        B_X5_findMoves_122 k25 (B_X5_findMoves_81 k25 fl n) fl v0 v1 v2 v4 q3.2)
      else
      bd (F_X5_isRight fl v0 q3.2) fun q6 =>
      if q6.1 = 0 then (
        B_X5_findMoves_122 k25 (B_X5_findMoves_81 k25 fl n) fl v0 v1 v2 v4 q6.2)
      else
      some ((1 : Int32), q6.2))
    else
    B_X5_findMoves_128 k25 fl v0 v1 v2 s
def B_X5_findMoves_66 (k25 : Nat → Int32 → Int32 → Mem → Option (Int32 × Mem)) (fl : Nat) (v0 : Nat) (v1 : Int32) (v2 : Int32) (s : Mem) : Option (Int32 × Mem) :=
  bd (ldA s v0 4 0) fun r9 =>
  gd (inR (1 : Int32) r9.2) <|
  B_X5_findMoves_81 k25 fl fl v0 v1 v2 (((gI s r9.1 (1 : Int32).toNatClampNeg) + (1 : Int32)) * (6 : Int32)) s
def B_X5_findMoves_25 (fl : Nat) : Nat → Nat → Int32 → Int32 → Mem → Option (Int32 × Mem)
  | 0 => fun _ _ _ _ => none
  | n + 1 => fun v0 v1 v2 s =>
    if v1 ≤ v2 then (
      some ((0 : Int32), s))
    else
    bd (F_X5_chooseMove fl v0 (1 : Int32) (v2 / (6 : Int32)) (v2 - v2 / (6 : Int32) * (6 : Int32)) s) fun q13 =>
    if q13.1 = 0 then (
      B_X5_findMoves_128 (B_X5_findMoves_25 fl n) fl v0 v1 v2 q13.2)
    else
    if (gI q13.2 v0 2) = (1 : Int32) then (
      bd (F_X5_isRight fl v0 q13.2) fun q17 =>
      if q17.1 = 0 then (
        B_X5_findMoves_66 (B_X5_findMoves_25 fl n) fl v0 v1 v2 q17.2)
      else
      some ((1 : Int32), q17.2))
    else
    B_X5_findMoves_66 (B_X5_findMoves_25 fl n) fl v0 v1 v2 q13.2
def F_X5_findMoves (fl : Nat) (v0 : Nat) (s : Mem) : Option (Int32 × Mem) :=
  if (gI s v0 2) = 0 then (
    bd (F_X5_isRight fl v0 s) fun q23 =>
    gd (q23.1 = 0 ∨ q23.1 = 1) <|
    some (q23.1, q23.2))
  else
  bd (ldO s v0 0 3) fun r21 =>
  B_X5_findMoves_25 fl fl v0 ((gI s r21 3) * (6 : Int32)) (0 : Int32) s
def B_X5_findBestPlan_55 (k10 : Nat → Int32 → Mem → Option (Int32 × Mem)) (k22 : Nat → Int32 → Int32 → Mem → Option (Int32 × Mem)) (fl : Nat) (v0 : Nat) (v1 : Int32) (v2 : Int32) (s : Mem) : Option (Int32 × Mem) :=
  k22 v0 v1 (v2 + (1 : Int32)) s
def B_X5_findBestPlan_22 (k10 : Nat → Int32 → Mem → Option (Int32 × Mem)) (fl : Nat) : Nat → Nat → Int32 → Int32 → Mem → Option (Int32 × Mem)
  | 0 => fun _ _ _ _ => none
  | n + 1 => fun v0 v1 v2 s =>
    bd (ldO s v0 0 3) fun r1 =>
    if (gI s r1 1) ≤ v2 then (
      k10 v0 (v1 + (1 : Int32)) s)
    else
    bd (ldA s v0 13 0) fun r4 =>
    gd (inR v2 r4.2) <|
    bd (F_X5_chooseGoal fl v0 (gI s r4.1 v2.toNatClampNeg) s) fun q7 =>
    if q7.1 = 0 then (
      B_X5_findBestPlan_55 k10 (B_X5_findBestPlan_22 k10 fl n) fl v0 v1 v2 q7.2)
    else
    bd (F_X5_findMoves fl v0 q7.2) fun q10 =>
    if q10.1 = 0 then (
      B_X5_findBestPlan_55 k10 (B_X5_findBestPlan_22 k10 fl n) fl v0 v1 v2 q10.2)
    else
    some ((1 : Int32), q10.2)
def B_X5_findBestPlan_10 (fl : Nat) : Nat → Nat → Int32 → Mem → Option (Int32 × Mem)
  | 0 => fun _ _ _ => none
  | n + 1 => fun v0 v1 s =>
    if (2 : Int32) < v1 then (
      some ((0 : Int32), s))
    else
    nx (pI s v0 2 v1) fun m14 =>
    B_X5_findBestPlan_22 (B_X5_findBestPlan_10 fl n) fl fl v0 v1 (0 : Int32) m14
def F_X5_findBestPlan (fl : Nat) (v0 : Nat) (s : Mem) : Option (Int32 × Mem) :=
  bd (F_X5_survey fl v0 s) fun q16 =>
  bd (F_X5_sortPitches fl v0 q16) fun q18 =>
  B_X5_findBestPlan_10 fl fl v0 (0 : Int32) q18
def B_X5_writeMoves_2 (fl : Nat) : Nat → Nat → Nat → Int32 → Mem → Option (Int32 × Mem)
  | 0 => fun _ _ _ _ => none
  | n + 1 => fun v0 v1 v2 s =>
    if (gI s v0 2) < v2 then (
      some ((gI s v0 2), s))
    else
    bd (ldA s v0 4 0) fun r2 =>
    gd (inR v2 r2.2) <|
    bd (aLen v1 0) fun N5 =>
    gd (inR ((v2 - (1 : Int32)) * (3 : Int32)) N5) <|
    nx (pI s v1 ((v2 - (1 : Int32)) * (3 : Int32)).toNatClampNeg (gI s r2.1 v2.toNatClampNeg)) fun m8 =>
    bd (ldA m8 v0 5 0) fun r10 =>
    gd (inR v2 r10.2) <|
    gd (inR (((v2 - (1 : Int32)) * (3 : Int32)) + (1 : Int32)) N5) <|
    nx (pI m8 v1 (((v2 - (1 : Int32)) * (3 : Int32)) + (1 : Int32)).toNatClampNeg (gI m8 r10.1 v2.toNatClampNeg)) fun m14 =>
    bd (ldA m14 v0 6 0) fun r16 =>
    gd (inR v2 r16.2) <|
    gd (inR (((v2 - (1 : Int32)) * (3 : Int32)) + (2 : Int32)) N5) <|
    nx (pI m14 v1 (((v2 - (1 : Int32)) * (3 : Int32)) + (2 : Int32)).toNatClampNeg (gI m14 r16.1 v2.toNatClampNeg)) fun m20 =>
    B_X5_writeMoves_2 fl n v0 v1 (v2 + (1 : Int32)) m20
def F_X5_writeMoves (fl : Nat) (v0 : Nat) (v1 : Nat) (s : Mem) : Option (Int32 × Mem) :=
  B_X5_writeMoves_2 fl fl v0 v1 (1 : Int32) s
def B_X5_carryOut_2 (fl : Nat) : Nat → Nat → Int32 → Mem → Option (Int32 × Mem)
  | 0 => fun _ _ _ => none
  | n + 1 => fun v0 v1 s =>
    if (gI s v0 2) < v1 then (
      bd (ldO s v0 0 3) fun r2 =>
      bd (ldO s v0 1 5) fun r4 =>
      bd (ldA s v0 6 0) fun r6 =>
      gd (inR (0 : Int32) r6.2) <|
      bd (F_X1_makeParty fl r2 r4 (gI s r6.1 (0 : Int32).toNatClampNeg) s) fun q9 =>
      some (q9.1, q9.2))
    else
    bd (ldA s v0 3 5) fun r11 =>
    gd (inR v1 r11.2) <|
    bd (ldO s r11.1 v1.toNatClampNeg 5) fun r14 =>
    bd (ldA s v0 6 0) fun r16 =>
    gd (inR v1 r16.2) <|
    nx (pI s r14 7 (gI s r16.1 v1.toNatClampNeg)) fun m19 =>
    B_X5_carryOut_2 fl n v0 (v1 + (1 : Int32)) m19
def F_X5_carryOut (fl : Nat) (v0 : Nat) (s : Mem) : Option (Int32 × Mem) :=
  B_X5_carryOut_2 fl fl v0 (1 : Int32) s
def F_X7_isWithin (fl : Nat) (v0 : Int32) (v1 : Int32) (v2 : Int32) (s : Mem) : Option Int32 :=
  if v0 < v1 then (
    some (0 : Int32))
  else
  if v2 < v0 then (
    some (0 : Int32))
  else
  some (1 : Int32)
def B_X7_addPitch_39 (fl : Nat) (s : Mem) : Option ((Nat ⊕ Int32) × Mem) :=
  some (.inl 1, s)
def F_X7_addPitch (fl : Nat) (v0 : Nat) (v1 : Int32) (v2 : Int32) (v3 : Int32) (v4 : Int32) (s : Mem) : Option ((Nat ⊕ Int32) × Mem) :=
  bd (F_X7_isWithin fl v1 (0 : Int32) (2 : Int32) s) fun q1 =>
  if q1 = 0 then (
    B_X7_addPitch_39 fl s)
  else
  bd (F_X7_isWithin fl v2 (2 : Int32) (12 : Int32) s) fun q4 =>
  if q4 = 0 then (
    B_X7_addPitch_39 fl s)
  else
  bd (F_X7_isWithin fl v3 (2 : Int32) (12 : Int32) s) fun q7 =>
  if q7 = 0 then (
    B_X7_addPitch_39 fl s)
  else
  bd (F_X7_isWithin fl v4 (-1 : Int32) (2 : Int32) s) fun q10 =>
  if q10 = 0 then (
    B_X7_addPitch_39 fl s)
  else
  bd (ldO s v0 1 3) fun r13 =>
  if (gI s r13 1) < (6 : Int32) then (
    bd (ldO s v0 4 4) fun r16 =>
    bd (ldO s v0 1 3) fun r18 =>
    bd (F_X2_keep fl r16 r18 s) fun q20 =>
    bd (ldO q20 v0 1 3) fun r22 =>
    bd (F_X1_makePitch fl r22 v1 v2 v3 v4 q20) fun q24 =>
    some (.inr q24.1, q24.2))
  else
  some (.inl 2, s)
def F_X7_requirePitch (fl : Nat) (v0 : Nat) (v1 : Int32) (s : Mem) : Option ((Nat ⊕ Unit) × Mem) :=
  bd (ldO s v0 1 3) fun r1 =>
  bd (F_X1_hasPitch fl r1 v1 s) fun q3 =>
  if q3 = 0 then (
    some (.inl 3, s))
  else
  some (.inr (), s)
def F_X7_pitch (fl : Nat) (v0 : Nat) (v1 : Int32) (v2 : Int32) (s : Mem) : Option ((Nat ⊕ Int32) × Mem) :=
  bd (F_X7_requirePitch fl v0 v1 s) fun q1 =>
  xb q1 fun u9 s3 =>
  bd (ldO s3 v0 1 3) fun r7 =>
  bd (ldA s3 r7 0 4) fun r9 =>
  gd (inR v1 r9.2) <|
  bd (ldO s3 r9.1 v1.toNatClampNeg 6) fun r12 =>
  if v2 = 0 then (
    some (.inr (gI s3 r12 0), s3))
  else
  if v2 = 1 then (
    some (.inr (gI s3 r12 1), s3))
  else
  if v2 = 2 then (
    some (.inr (gI s3 r12 2), s3))
  else
  if v2 = 3 then (
    some (.inr (gI s3 r12 3), s3))
  else
  if v2 = 4 then (
    some (.inr (gI s3 r12 4), s3))
  else
  if v2 = 5 then (
    bd (ldO s3 v0 1 3) fun r20 =>
    bd (F_X1_busyNights fl r20 v1 (-1 : Int32) s3) fun q22 =>
    bd (F_J13_bitCount_95d88 fl q22 s3) fun q24 =>
    some (.inr q24, s3))
  else
  if v2 = 6 then (
    bd (ldO s3 v0 1 3) fun r27 =>
    bd (ldO s3 v0 1 3) fun r29 =>
    bd (F_X1_busyNights fl r29 v1 (-1 : Int32) s3) fun q31 =>
    bd (F_X1_countGaps fl r27 q31 s3) fun q33 =>
    some (.inr q33, s3))
  else
  some (.inl 1, s3)
def F_X7_requireCircuit (fl : Nat) (v0 : Int32) (s : Mem) : Option ((Nat ⊕ Unit) × Mem) :=
  bd (F_X7_isCircuit fl v0 s) fun q1 =>
  if q1 = 0 then (
    some (.inl 3, s))
  else
  some (.inr (), s)
def F_X7_setLimit (fl : Nat) (v0 : Nat) (v1 : Int32) (v2 : Int32) (s : Mem) : Option ((Nat ⊕ Int32) × Mem) :=
  bd (F_X7_requireCircuit fl v1 s) fun q1 =>
  xb q1 fun u9 s3 =>
  bd (F_X7_isWithin fl v2 (0 : Int32) (40 : Int32) s3) fun q7 =>
  if q7 = 0 then (
    some (.inl 1, s3))
  else
  bd (ldO s3 v0 4 4) fun r10 =>
  bd (ldO s3 v0 1 3) fun r12 =>
  bd (F_X2_keep fl r10 r12 s3) fun q14 =>
  bd (ldO q14 v0 1 3) fun r16 =>
  bd (ldA q14 r16 6 0) fun r18 =>
  gd (inR v1 r18.2) <|
  bd (ldO q14 v0 1 3) fun r21 =>
  bd (ldA q14 r21 6 0) fun r23 =>
  gd (inR v1 r23.2) <|
  nx (pI q14 r23.1 v1.toNatClampNeg v2) fun m26 =>
  some (.inr (gI q14 r18.1 v1.toNatClampNeg), m26)
def F_X7_setRate (fl : Nat) (v0 : Nat) (v1 : Int32) (v2 : Int32) (s : Mem) : Option ((Nat ⊕ Int32) × Mem) :=
  bd (F_X7_requirePitch fl v0 v1 s) fun q1 =>
  xb q1 fun u9 s3 =>
  bd (F_X7_isWithin fl v2 (1 : Int32) (99 : Int32) s3) fun q7 =>
  if q7 = 0 then (
    some (.inl 1, s3))
  else
  bd (ldO s3 v0 4 4) fun r10 =>
  bd (ldO s3 v0 1 3) fun r12 =>
  bd (F_X2_keep fl r10 r12 s3) fun q14 =>
  bd (ldO q14 v0 1 3) fun r16 =>
  bd (ldA q14 r16 0 4) fun r18 =>
  gd (inR v1 r18.2) <|
  bd (ldO q14 r18.1 v1.toNatClampNeg 6) fun r21 =>
  bd (ldO q14 v0 1 3) fun r23 =>
  bd (ldA q14 r23 0 4) fun r25 =>
  gd (inR v1 r25.2) <|
  bd (ldO q14 r25.1 v1.toNatClampNeg 6) fun r28 =>
  nx (pI q14 r28 4 v2) fun m30 =>
  some (.inr (gI q14 r21 4), m30)
def F_X7_setGap (fl : Nat) (v0 : Nat) (v1 : Int32) (s : Mem) : Option ((Nat ⊕ Int32) × Mem) :=
  bd (F_X7_isWithin fl v1 (0 : Int32) (5 : Int32) s) fun q1 =>
  if q1 = 0 then (
    some (.inl 1, s))
  else
  bd (ldO s v0 4 4) fun r4 =>
  bd (ldO s v0 1 3) fun r6 =>
  bd (F_X2_keep fl r4 r6 s) fun q8 =>
  bd (ldO q8 v0 1 3) fun r10 =>
  bd (ldO q8 v0 1 3) fun r12 =>
  nx (pI q8 r12 7 v1) fun m14 =>
  some (.inr (gI q8 r10 7), m14)
def F_X7_isNight (fl : Nat) (v0 : Int32) (s : Mem) : Option Int32 :=
  if v0 < 0 then (
    some (0 : Int32))
  else
  if (60 : Int32) ≤ v0 then (
    some (0 : Int32))
  else
  some (1 : Int32)
def B_X7_addSeason_29 (fl : Nat) (s : Mem) : Option ((Nat ⊕ Int32) × Mem) :=
  some (.inl 1, s)
def F_X7_addSeason (fl : Nat) (v0 : Nat) (v1 : Int32) (v2 : Int32) (v3 : Int32) (s : Mem) : Option ((Nat ⊕ Int32) × Mem) :=
  bd (F_X7_isNight fl v1 s) fun q1 =>
  if q1 = 0 then (
    B_X7_addSeason_29 fl s)
  else
  bd (F_X7_isNight fl v2 s) fun q4 =>
  if q4 = 0 then (
    B_X7_addSeason_29 fl s)
  else
  if v2 < v1 then (
    B_X7_addSeason_29 fl s)
  else
  bd (F_X7_isWithin fl v3 (1 : Int32) (14 : Int32) s) fun q8 =>
  if q8 = 0 then (
    B_X7_addSeason_29 fl s)
  else
  bd (ldO s v0 1 3) fun r11 =>
  if (gI s r11 5) < (4 : Int32) then (
    bd (ldO s v0 4 4) fun r14 =>
    bd (ldO s v0 1 3) fun r16 =>
    bd (F_X2_keep fl r14 r16 s) fun q18 =>
    bd (ldO q18 v0 1 3) fun r20 =>
    bd (F_X1_makeSeason fl r20 v1 v2 v3 q18) fun q22 =>
    some (.inr q22.1, q22.2))
  else
  some (.inl 2, s)
def F_X7_requireSeason (fl : Nat) (v0 : Nat) (v1 : Int32) (s : Mem) : Option ((Nat ⊕ Unit) × Mem) :=
  bd (ldO s v0 1 3) fun r1 =>
  bd (F_X7_isWithin fl v1 (0 : Int32) ((gI s r1 5) - (1 : Int32)) s) fun q3 =>
  if q3 = 0 then (
    some (.inl 3, s))
  else
  some (.inr (), s)
def F_X7_dropSeason (fl : Nat) (v0 : Nat) (v1 : Int32) (s : Mem) : Option ((Nat ⊕ Int32) × Mem) :=
  bd (F_X7_requireSeason fl v0 v1 s) fun q1 =>
  xb q1 fun u9 s3 =>
  bd (ldO s3 v0 4 4) fun r7 =>
  bd (ldO s3 v0 1 3) fun r9 =>
  bd (F_X2_keep fl r7 r9 s3) fun q11 =>
  bd (ldO q11 v0 1 3) fun r13 =>
  bd (F_X1_removeSeason fl r13 v1 q11) fun q15 =>
  bd (ldO q15 v0 1 3) fun r17 =>
  some (.inr (gI q15 r17 5), q15)
def F_X7_season (fl : Nat) (v0 : Nat) (v1 : Int32) (v2 : Int32) (s : Mem) : Option ((Nat ⊕ Int32) × Mem) :=
  bd (F_X7_requireSeason fl v0 v1 s) fun q1 =>
  xb q1 fun u9 s3 =>
  bd (ldO s3 v0 1 3) fun r7 =>
  bd (ldA s3 r7 4 6) fun r9 =>
  gd (inR v1 r9.2) <|
  bd (ldO s3 r9.1 v1.toNatClampNeg 8) fun r12 =>
  if v2 = 0 then (
    some (.inr (gI s3 r12 0), s3))
  else
  if v2 = 1 then (
    some (.inr (gI s3 r12 1), s3))
  else
  if v2 = 2 then (
    some (.inr (gI s3 r12 2), s3))
  else
  some (.inl 1, s3)
def F_X7_isStay (fl : Nat) (v0 : Int32) (v1 : Int32) (s : Mem) : Option Int32 :=
  bd (F_X7_isNight fl v0 s) fun q1 =>
  if q1 = 0 then (
    some (0 : Int32))
  else
  bd (F_X7_isWithin fl v1 (1 : Int32) (14 : Int32) s) fun q4 =>
  if q4 = 0 then (
    some (0 : Int32))
  else
  if ((60 : Int32) - v0) < v1 then (
    some (0 : Int32))
  else
  some (1 : Int32)
def F_X7_leastStay (fl : Nat) (v0 : Nat) (v1 : Int32) (v2 : Int32) (s : Mem) : Option ((Nat ⊕ Int32) × Mem) :=
  bd (F_X7_isStay fl v1 v2 s) fun q1 =>
  if q1 = 0 then (
    some (.inl 1, s))
  else
  bd (ldO s v0 1 3) fun r4 =>
  bd (F_X1_stayAsked fl r4 v1 v2 s) fun q6 =>
  some (.inr q6, s)
def B_X7_book_62 (fl : Nat) (s : Mem) : Option ((Nat ⊕ Int32) × Mem) :=
  some (.inl 1, s)
def F_X7_book (fl : Nat) (v0 : Nat) (v1 : Int32) (v2 : Int32) (v3 : Int32) (v4 : Int32) (v5 : Int32) (v6 : Int32) (s : Mem) : Option ((Nat ⊕ Int32) × Mem) :=
  bd (F_X7_isWithin fl v1 (0 : Int32) (2 : Int32) s) fun q1 =>
  if q1 = 0 then (
    B_X7_book_62 fl s)
  else
  bd (F_X7_isWithin fl v2 (1 : Int32) (12 : Int32) s) fun q4 =>
  if q4 = 0 then (
    B_X7_book_62 fl s)
  else
  bd (F_X7_isWithin fl v3 (1 : Int32) (12 : Int32) s) fun q7 =>
  if q7 = 0 then (
    B_X7_book_62 fl s)
  else
  bd (F_X7_isWithin fl v4 (0 : Int32) (16 : Int32) s) fun q10 =>
  if q10 = 0 then (
    B_X7_book_62 fl s)
  else
  bd (F_X7_isStay fl v5 v6 s) fun q13 =>
  if q13 = 0 then (
    B_X7_book_62 fl s)
  else
  bd (ldO s v0 1 3) fun r16 =>
  if (gI s r16 8) ≤ v5 then (
    bd (ldO s v0 1 3) fun r19 =>
    if (gI s r19 3) < (12 : Int32) then (
      bd (ldO s v0 0 7) fun r22 =>
      bd (ldO s r22 1 5) fun r24 =>
      bd (F_X3_describe fl r24 v1 v2 v3 v4 v5 v6 s) fun q26 =>
      bd (ldO q26 v0 0 7) fun r28 =>
      bd (F_X5_findBestPlan fl r28 q26) fun q30 =>
      if q30.1 = 0 then (
        bd (ldO q30.2 v0 1 3) fun r51 =>
        bd (ldO q30.2 v0 0 7) fun r53 =>
        bd (ldO q30.2 r53 1 5) fun r55 =>
        bd (F_X1_greatestObstacle fl r51 r55 q30.2) fun q57 =>
        nx (pI q30.2 v0 6 q57) fun m59 =>
        some (.inl 5, m59))
      else
      bd (ldO q30.2 v0 4 4) fun r33 =>
      bd (ldO q30.2 v0 1 3) fun r35 =>
      bd (F_X2_keep fl r33 r35 q30.2) fun q37 =>
      bd (ldO q37 v0 0 7) fun r39 =>
      bd (ldA q37 v0 8 0) fun r41 =>
      bd (F_X5_writeMoves fl r39 r41.1 q37) fun q43 =>
      nx (pI q43.2 v0 7 q43.1) fun m45 =>
      bd (ldO m45 v0 0 7) fun r47 =>
      bd (F_X5_carryOut fl r47 m45) fun q49 =>
      some (.inr q49.1, q49.2))
    else
    some (.inl 2, s))
  else
  B_X7_book_62 fl s
def F_X7_append (fl : Nat) (v0 : Nat) (v1 : Int32) (s : Mem) : Option ((Nat ⊕ Unit) × Mem) :=
  bd (ldO s v0 5 2) fun r1 =>
  bd (F_X0_add fl r1 v1 s) fun q3 =>
  if q3.1 = 0 then (
    some (.inl 2, q3.2))
  else
  some (.inr (), q3.2)
def F_X7_readBooking (fl : Nat) (v0 : Nat) (s : Mem) : Option ((Nat ⊕ Int32) × Mem) :=
  bd (ldO s v0 5 2) fun r1 =>
  bd (F_X0_parse fl r1 s) fun q3 =>
  if q3.1 = 0 then (
    some (.inl 1, q3.2))
  else
  bd (ldO q3.2 v0 5 2) fun r6 =>
  bd (ldA q3.2 r6 5 0) fun r8 =>
  bd (ldO q3.2 v0 5 2) fun r10 =>
  gd (inR (0 : Int32) r8.2) <|
  gd (inR (1 : Int32) r8.2) <|
  gd (inR (4 : Int32) r8.2) <|
  gd (inR (2 : Int32) r8.2) <|
  gd (inR (3 : Int32) r8.2) <|
  bd (F_X7_book fl v0 (gI q3.2 r10 4) (gI q3.2 r8.1 (0 : Int32).toNatClampNeg) (gI q3.2 r8.1 (1 : Int32).toNatClampNeg) (gI q3.2 r8.1 (4 : Int32).toNatClampNeg) (gI q3.2 r8.1 (2 : Int32).toNatClampNeg) (gI q3.2 r8.1 (3 : Int32).toNatClampNeg) q3.2) fun q17 =>
  xb q17 fun x19 s20 =>
  some (.inr x19, s20)
def F_X7_faultPosition (fl : Nat) (v0 : Nat) (s : Mem) : Option Int32 :=
  bd (ldO s v0 5 2) fun r1 =>
  some (gI s r1 3)
def F_X7_refusal (fl : Nat) (v0 : Nat) (s : Mem) : Option ((Nat ⊕ Int32) × Mem) :=
  if (gI s v0 6) = 0 then (
    some (.inl 6, s))
  else
  some (.inr (gI s v0 6), s)
def F_X7_requireParty (fl : Nat) (v0 : Nat) (v1 : Int32) (s : Mem) : Option ((Nat ⊕ Unit) × Mem) :=
  bd (ldO s v0 1 3) fun r1 =>
  bd (F_X7_isWithin fl v1 (0 : Int32) ((gI s r1 3) - (1 : Int32)) s) fun q3 =>
  if q3 = 0 then (
    some (.inl 3, s))
  else
  some (.inr (), s)
def F_X7_party (fl : Nat) (v0 : Nat) (v1 : Int32) (v2 : Int32) (s : Mem) : Option ((Nat ⊕ Int32) × Mem) :=
  bd (F_X7_requireParty fl v0 v1 s) fun q1 =>
  xb q1 fun u9 s3 =>
  bd (ldO s3 v0 1 3) fun r7 =>
  bd (ldA s3 r7 2 5) fun r9 =>
  gd (inR v1 r9.2) <|
  bd (ldO s3 r9.1 v1.toNatClampNeg 5) fun r12 =>
  if v2 = 0 then (
    some (.inr (gI s3 r12 0), s3))
  else
  if v2 = 1 then (
    some (.inr (gI s3 r12 1), s3))
  else
  if v2 = 2 then (
    some (.inr (gI s3 r12 2), s3))
  else
  if v2 = 3 then (
    some (.inr (gI s3 r12 3), s3))
  else
  if v2 = 4 then (
    some (.inr (gI s3 r12 4), s3))
  else
  if v2 = 5 then (
    some (.inr (gI s3 r12 5), s3))
  else
  if v2 = 6 then (
    some (.inr (gI s3 r12 7), s3))
  else
  if v2 = 7 then (
    some (.inr (gI s3 r12 8), s3))
  else
  if v2 = 8 then (
    if (gI s3 r12 10) = 0 then (
      some (.inr (0 : Int32), s3))
    else
    some (.inr (1 : Int32), s3))
  else
  if v2 = 9 then (
    some (.inr (gI s3 r12 9), s3))
  else
  some (.inl 1, s3)
def F_X7_moves (fl : Nat) (v0 : Nat) (s : Mem) : Option Int32 :=
  some (gI s v0 7)
def F_X7_moveOf (fl : Nat) (v0 : Nat) (v1 : Int32) (v2 : Int32) (s : Mem) : Option ((Nat ⊕ Int32) × Mem) :=
  bd (F_X7_isWithin fl v1 (0 : Int32) ((gI s v0 7) - (1 : Int32)) s) fun q1 =>
  if q1 = 0 then (
    some (.inl 6, s))
  else
  bd (F_X7_isWithin fl v2 (0 : Int32) (2 : Int32) s) fun q4 =>
  if q4 = 0 then (
    some (.inl 1, s))
  else
  bd (ldA s v0 8 0) fun r7 =>
  gd (inR ((v1 * (3 : Int32)) + v2) r7.2) <|
  some (.inr (gI s r7.1 ((v1 * (3 : Int32)) + v2).toNatClampNeg), s)
def B_X7_move_39 (fl : Nat) (s : Mem) : Option ((Nat ⊕ Int32) × Mem) :=
  some (.inl 2, s)
def F_X7_move (fl : Nat) (v0 : Nat) (v1 : Int32) (v2 : Int32) (s : Mem) : Option ((Nat ⊕ Int32) × Mem) :=
  bd (F_X7_requireParty fl v0 v1 s) fun q1 =>
  xb q1 fun u9 s3 =>
  bd (F_X7_requirePitch fl v0 v2 s3) fun q7 =>
  xb q7 fun u9 s9 =>
  bd (ldO s9 v0 1 3) fun r13 =>
  bd (ldA s9 r13 2 5) fun r15 =>
  gd (inR v1 r15.2) <|
  bd (ldO s9 r15.1 v1.toNatClampNeg 5) fun r18 =>
  bd (ldO s9 v0 1 3) fun r20 =>
  bd (F_X1_isStillToCome fl r20 r18 s9) fun q22 =>
  if q22 = 0 then (
    B_X7_move_39 fl s9)
  else
  if (gI s9 r18 7) = v2 then (
    B_X7_move_39 fl s9)
  else
  bd (ldO s9 v0 1 3) fun r26 =>
  bd (F_X1_obstacleOf fl r26 r18 v1 v2 s9) fun q28 =>
  bd (F_X7_isWithin fl q28 (1 : Int32) (3 : Int32) s9) fun q30 =>
  if q30 = 0 then (
    bd (ldO s9 v0 4 4) fun r33 =>
    bd (ldO s9 v0 1 3) fun r35 =>
    bd (F_X2_keep fl r33 r35 s9) fun q37 =>
    nx (pI q37 r18 7 v2) fun m39 =>
    some (.inr (gI q37 r18 7), m39))
  else
  some (.inl 5, s9)
def F_X7_cancel (fl : Nat) (v0 : Nat) (v1 : Int32) (s : Mem) : Option ((Nat ⊕ Int32) × Mem) :=
  bd (F_X7_requireParty fl v0 v1 s) fun q1 =>
  xb q1 fun u9 s3 =>
  bd (ldO s3 v0 1 3) fun r7 =>
  bd (ldA s3 r7 2 5) fun r9 =>
  gd (inR v1 r9.2) <|
  bd (ldO s3 r9.1 v1.toNatClampNeg 5) fun r12 =>
  bd (ldO s3 v0 1 3) fun r14 =>
  bd (F_X1_isStillToCome fl r14 r12 s3) fun q16 =>
  if q16 = 0 then (
    some (.inl 2, s3))
  else
  bd (ldO s3 v0 4 4) fun r19 =>
  bd (ldO s3 v0 1 3) fun r21 =>
  bd (F_X2_keep fl r19 r21 s3) fun q23 =>
  nx (pI q23 r12 10 (0 : Int32)) fun m25 =>
  bd (ldO m25 v0 1 3) fun r27 =>
  bd (F_X3_feeAt fl r12 (gI m25 r27 8) m25) fun q29 =>
  nx (pI m25 r12 9 q29) fun m31 =>
  some (.inr (gI m31 r12 9), m31)
def F_X7_advance (fl : Nat) (v0 : Nat) (v1 : Int32) (s : Mem) : Option ((Nat ⊕ Int32) × Mem) :=
  bd (ldO s v0 1 3) fun r1 =>
  bd (F_X7_isWithin fl v1 (0 : Int32) ((60 : Int32) - (gI s r1 8)) s) fun q3 =>
  if q3 = 0 then (
    some (.inl 1, s))
  else
  bd (ldO s v0 4 4) fun r6 =>
  bd (ldO s v0 1 3) fun r8 =>
  bd (F_X2_keep fl r6 r8 s) fun q10 =>
  bd (ldO q10 v0 1 3) fun r12 =>
  bd (ldO q10 v0 1 3) fun r14 =>
  nx (pI q10 r14 8 ((gI q10 r12 8) + v1)) fun m16 =>
  bd (ldO m16 v0 1 3) fun r18 =>
  bd (ldO m16 v0 1 3) fun r20 =>
  bd (F_X1_countArrivals fl r18 (gI q10 r12 8) (gI m16 r20 8) m16) fun q22 =>
  some (.inr q22, m16)
def F_X7_tonight (fl : Nat) (v0 : Nat) (s : Mem) : Option Int32 :=
  bd (ldO s v0 1 3) fun r1 =>
  some (gI s r1 8)
def F_X7_obstacle (fl : Nat) (v0 : Nat) (v1 : Int32) (v2 : Int32) (s : Mem) : Option ((Nat ⊕ Int32) × Mem) :=
  bd (F_X7_requireParty fl v0 v1 s) fun q1 =>
  xb q1 fun u9 s3 =>
  bd (F_X7_requirePitch fl v0 v2 s3) fun q7 =>
  xb q7 fun u9 s9 =>
  bd (ldO s9 v0 1 3) fun r13 =>
  bd (ldO s9 v0 1 3) fun r15 =>
  bd (ldA s9 r15 2 5) fun r17 =>
  gd (inR v1 r17.2) <|
  bd (ldO s9 r17.1 v1.toNatClampNeg 5) fun r20 =>
  bd (F_X1_obstacleOf fl r13 r20 v1 v2 s9) fun q22 =>
  some (.inr q22, s9)
def F_X7_requireNight (fl : Nat) (v0 : Int32) (s : Mem) : Option ((Nat ⊕ Unit) × Mem) :=
  bd (F_X7_isNight fl v0 s) fun q1 =>
  if q1 = 0 then (
    some (.inl 3, s))
  else
  some (.inr (), s)
def F_X7_occupant (fl : Nat) (v0 : Nat) (v1 : Int32) (v2 : Int32) (s : Mem) : Option ((Nat ⊕ Int32) × Mem) :=
  bd (F_X7_requirePitch fl v0 v1 s) fun q1 =>
  xb q1 fun u9 s3 =>
  bd (F_X7_requireNight fl v2 s3) fun q7 =>
  xb q7 fun u9 s9 =>
  bd (ldO s9 v0 1 3) fun r13 =>
  bd (F_X1_partyAt fl r13 v1 v2 s9) fun q15 =>
  some (.inr q15, s9)
def B_X7_nightAt_32 (k5 : Int64 → Int32 → Int32 → Int32 → Option Int32) (fl : Nat) (s : Mem) (v0 : Int64) (v2 : Int32) (v3 : Int32) (v4 : Int32) : Option Int32 :=
  k5 v0 v2 v3 (v4 + (1 : Int32))
def B_X7_nightAt_5 (fl : Nat) (s : Mem) : Nat → Int64 → Int32 → Int32 → Int32 → Option Int32
  | 0 => fun _ _ _ _ => none
  | n + 1 => fun v0 v2 v3 v4 =>
    if (60 : Int32) ≤ v4 then (
      some (60 : Int32))
    else
    bd (F_X7_holds fl v0 v4 s) fun q2 =>
    if q2 = 0 then (
      B_X7_nightAt_32 (B_X7_nightAt_5 fl s n) fl s v0 v2 v3 v4)
    else
    if v3 = v2 then (
      some v4)
    else
    B_X7_nightAt_32 (B_X7_nightAt_5 fl s n) fl s v0 v2 (v3 + (1 : Int32)) v4
def F_X7_nightAt (fl : Nat) (v0 : Int64) (v2 : Int32) (s : Mem) : Option Int32 :=
  B_X7_nightAt_5 fl s fl v0 v2 (0 : Int32) (0 : Int32)
def F_X7_busyNight (fl : Nat) (v0 : Nat) (v1 : Int32) (v2 : Int32) (s : Mem) : Option ((Nat ⊕ Int32) × Mem) :=
  bd (F_X7_requirePitch fl v0 v1 s) fun q1 =>
  xb q1 fun u9 s3 =>
  bd (ldO s3 v0 1 3) fun r7 =>
  bd (F_X1_busyNights fl r7 v1 (-1 : Int32) s3) fun q9 =>
  bd (F_X7_nightAt fl q9 v2 s3) fun q11 =>
  if q11 < (60 : Int32) then (
    some (.inr q11, s3))
  else
  some (.inl 6, s3)
def B_X7_freeFrom_3 (fl : Nat) (s : Mem) : Nat → Int64 → Int32 → Int32 → Option Int32
  | 0 => fun _ _ _ => none
  | n + 1 => fun v0 v3 v4 =>
    if ((60 : Int32) - v3) < v4 then (
      some (60 : Int32))
    else
    bd (F_X7_stayOf fl v4 v3 s) fun q2 =>
    if (lg_cmp (v0 &&& q2) (0 : Int64)) = 0 then (
      some v4)
    else
    B_X7_freeFrom_3 fl s n v0 v3 (v4 + (1 : Int32))
def F_X7_freeFrom (fl : Nat) (v0 : Int64) (v2 : Int32) (v3 : Int32) (s : Mem) : Option Int32 :=
  B_X7_freeFrom_3 fl s fl v0 v3 v2
def B_X7_firstFree_22 (fl : Nat) (s : Mem) : Option ((Nat ⊕ Int32) × Mem) :=
  some (.inl 1, s)
def F_X7_firstFree (fl : Nat) (v0 : Nat) (v1 : Int32) (v2 : Int32) (v3 : Int32) (s : Mem) : Option ((Nat ⊕ Int32) × Mem) :=
  bd (F_X7_requirePitch fl v0 v1 s) fun q1 =>
  xb q1 fun u9 s3 =>
  bd (F_X7_isNight fl v2 s3) fun q7 =>
  if q7 = 0 then (
    B_X7_firstFree_22 fl s3)
  else
  bd (F_X7_isWithin fl v3 (1 : Int32) (14 : Int32) s3) fun q10 =>
  if q10 = 0 then (
    B_X7_firstFree_22 fl s3)
  else
  bd (ldO s3 v0 1 3) fun r13 =>
  bd (F_X1_busyNights fl r13 v1 (-1 : Int32) s3) fun q15 =>
  bd (F_X7_freeFrom fl q15 v2 v3 s3) fun q17 =>
  if q17 < (60 : Int32) then (
    some (.inr q17, s3))
  else
  some (.inl 6, s3)
def F_X7_power (fl : Nat) (v0 : Nat) (v1 : Int32) (v2 : Int32) (s : Mem) : Option ((Nat ⊕ Int32) × Mem) :=
  bd (F_X7_requireCircuit fl v1 s) fun q1 =>
  xb q1 fun u9 s3 =>
  bd (F_X7_requireNight fl v2 s3) fun q7 =>
  xb q7 fun u9 s9 =>
  bd (ldO s9 v0 1 3) fun r13 =>
  bd (F_X1_powerUsed fl r13 v1 v2 (-1 : Int32) s9) fun q15 =>
  some (.inr q15, s9)
def B_X7_peak_44 (k12 : Nat → Int32 → Int32 → Int32 → Int32 → Mem → Option ((Nat ⊕ Int32) × Mem)) (fl : Nat) (v0 : Nat) (v1 : Int32) (v2 : Int32) (v3 : Int32) (v4 : Int32) (s : Mem) : Option ((Nat ⊕ Int32) × Mem) :=
  k12 v0 v1 v2 v3 (v4 + (1 : Int32)) s
def B_X7_peak_12 (fl : Nat) : Nat → Nat → Int32 → Int32 → Int32 → Int32 → Mem → Option ((Nat ⊕ Int32) × Mem)
  | 0 => fun _ _ _ _ _ _ => none
  | n + 1 => fun v0 v1 v2 v3 v4 s =>
    if (60 : Int32) ≤ v4 then (
      if v2 < (60 : Int32) then (
        some (.inr v2, s))
      else
      some (.inl 6, s))
    else
    bd (ldO s v0 1 3) fun r3 =>
    bd (F_X1_powerUsed fl r3 v1 v4 (-1 : Int32) s) fun q5 =>
    if q5 ≤ v3 then (
      B_X7_peak_44 (B_X7_peak_12 fl n) fl v0 v1 v2 v3 v4 s)
    else
    B_X7_peak_44 (B_X7_peak_12 fl n) fl v0 v1 v4 q5 v4 s
def F_X7_peak (fl : Nat) (v0 : Nat) (v1 : Int32) (s : Mem) : Option ((Nat ⊕ Int32) × Mem) :=
  bd (F_X7_requireCircuit fl v1 s) fun q8 =>
  xb q8 fun u9 s10 =>
  B_X7_peak_12 fl fl v0 v1 (60 : Int32) (0 : Int32) (0 : Int32) s10
def B_X7_nextBusy_2 (fl : Nat) (s : Mem) : Nat → Int64 → Int32 → Option Int32
  | 0 => fun _ _ => none
  | n + 1 => fun v0 v3 =>
    if (60 : Int32) ≤ v3 then (
      some v3)
    else
    bd (F_X7_holds fl v0 v3 s) fun q2 =>
    if q2 = 0 then (
      B_X7_nextBusy_2 fl s n v0 (v3 + (1 : Int32)))
    else
    some v3
def F_X7_nextBusy (fl : Nat) (v0 : Int64) (v2 : Int32) (s : Mem) : Option Int32 :=
  B_X7_nextBusy_2 fl s fl v0 v2
def F_X7_gap (fl : Nat) (v0 : Nat) (v1 : Int32) (v2 : Int32) (v3 : Int32) (s : Mem) : Option ((Nat ⊕ Int32) × Mem) :=
  bd (F_X7_requirePitch fl v0 v1 s) fun q1 =>
  xb q1 fun u9 s3 =>
  bd (ldO s3 v0 1 3) fun r7 =>
  bd (F_X1_busyNights fl r7 v1 (-1 : Int32) s3) fun q9 =>
  bd (ldO s3 v0 1 3) fun r11 =>
  bd (F_X1_gapEdges fl r11 q9 s3) fun q13 =>
  bd (F_X7_nightAt fl q13 v2 s3) fun q15 =>
  if q15 < (60 : Int32) then (
    if v3 = 0 then (
      some (.inr (q15 + (1 : Int32)), s3))
    else
    bd (F_X7_nextBusy fl q9 (q15 + (1 : Int32)) s3) fun q19 =>
    some (.inr (q19 - (1 : Int32)), s3))
  else
  some (.inl 6, s3)
def F_X7_account (fl : Nat) (v0 : Nat) (v1 : Int32) (s : Mem) : Option ((Nat ⊕ Int32) × Mem) :=
  if v1 = 0 then (
    bd (ldO s v0 1 3) fun r2 =>
    some (.inr (gI s r2 1), s))
  else
  if v1 = 1 then (
    bd (ldO s v0 1 3) fun r5 =>
    bd (F_X1_countBooked fl r5 s) fun q7 =>
    some (.inr q7, s))
  else
  if v1 = 2 then (
    bd (ldO s v0 1 3) fun r10 =>
    bd (ldO s v0 1 3) fun r12 =>
    bd (F_X1_countBooked fl r12 s) fun q14 =>
    some (.inr ((gI s r10 3) - q14), s))
  else
  if v1 = 3 then (
    bd (ldO s v0 1 3) fun r17 =>
    bd (F_X1_sumPrices fl r17 s) fun q19 =>
    some (.inr q19, s))
  else
  if v1 = 4 then (
    bd (ldO s v0 1 3) fun r22 =>
    bd (F_X1_sumFees fl r22 s) fun q24 =>
    some (.inr q24, s))
  else
  if v1 = 5 then (
    bd (ldO s v0 1 3) fun r27 =>
    bd (F_X1_countAllGaps fl r27 s) fun q29 =>
    some (.inr q29, s))
  else
  if v1 = 6 then (
    bd (ldO s v0 1 3) fun r32 =>
    bd (F_X1_countAllBusyNights fl r32 s) fun q34 =>
    some (.inr q34, s))
  else
  if v1 = 7 then (
    bd (ldO s v0 1 3) fun r37 =>
    some (.inr (gI s r37 5), s))
  else
  some (.inl 1, s)
def F_X7_share (fl : Nat) (v0 : Nat) (s : Mem) : Option ((Nat ⊕ UInt64) × Mem) :=
  bd (ldO s v0 1 3) fun r1 =>
  if 0 < (gI s r1 1) then (
    bd (ldO s v0 1 3) fun r4 =>
    bd (F_X1_countAllBusyNights fl r4 s) fun q6 =>
    bd (ldO s v0 1 3) fun r8 =>
    gd (nNaN (FP.ddiv (FP.i2d q6) (FP.i2d ((60 : Int32) * (gI s r8 1))))) <|
    some (.inr (FP.ddiv (FP.i2d q6) (FP.i2d ((60 : Int32) * (gI s r8 1)))), s))
  else
  some (.inl 4, s)
def F_X7_undo (fl : Nat) (v0 : Nat) (s : Mem) : Option ((Nat ⊕ Int32) × Mem) :=
  bd (ldO s v0 4 4) fun r1 =>
  if 0 < (gI s r1 2) then (
    bd (ldO s v0 4 4) fun r4 =>
    bd (ldO s v0 1 3) fun r6 =>
    bd (F_X2_takeBack fl r4 r6 s) fun q8 =>
    bd (ldO q8 v0 4 4) fun r10 =>
    some (.inr (gI q8 r10 2), q8))
  else
  some (.inl 2, s)
def F_X7_save (fl : Nat) (v0 : Nat) (s : Mem) : Option Mem :=
  bd (ldO s v0 2 3) fun r1 =>
  bd (ldO s v0 1 3) fun r3 =>
  bd (F_X1_copyFrom fl r1 r3 s) fun q5 =>
  nx (pI q5 v0 3 (1 : Int32)) fun m7 =>
  some m7
def F_X7_restore (fl : Nat) (v0 : Nat) (s : Mem) : Option ((Nat ⊕ Unit) × Mem) :=
  if (gI s v0 3) = 0 then (
    some (.inl 2, s))
  else
  bd (ldO s v0 1 3) fun r2 =>
  bd (ldO s v0 2 3) fun r4 =>
  bd (F_X1_copyFrom fl r2 r4 s) fun q6 =>
  bd (ldO q6 v0 4 4) fun r8 =>
  nx (pI q6 r8 2 (0 : Int32)) fun m10 =>
  some (.inr (), m10)
def F_X8_thrown (fl : Nat) (v0 : Nat) (s : Mem) : Option Int32 :=
  some (gI s v0 0)
def F_X8_in (fl : Nat) (v0 : Int32) (v1 : Int32) (v2 : Int32) (s : Mem) : Option Int32 :=
  if v0 < v1 then (
    some (0 : Int32))
  else
  if v2 < v0 then (
    some (0 : Int32))
  else
  some (1 : Int32)
def B_X8_copies_2 (fl : Nat) : Nat → Nat → Int32 → Int32 → Int32 → Mem → Option Mem
  | 0 => fun _ _ _ _ _ => none
  | n + 1 => fun v0 v1 v2 v3 s =>
    if (170 : Int32) ≤ v3 then (
      some s)
    else
    bd (ldA s v0 1 0) fun r2 =>
    bd (ldA s v0 1 0) fun r4 =>
    gd (inR (((170 : Int32) * v1) + v3) r4.2) <|
    gd (inR (((170 : Int32) * v2) + v3) r2.2) <|
    nx (pI s r2.1 (((170 : Int32) * v2) + v3).toNatClampNeg (gI s r4.1 (((170 : Int32) * v1) + v3).toNatClampNeg)) fun m8 =>
    B_X8_copies_2 fl n v0 v1 v2 (v3 + (1 : Int32)) m8
def F_X8_copies (fl : Nat) (v0 : Nat) (v1 : Int32) (v2 : Int32) (s : Mem) : Option Mem :=
  B_X8_copies_2 fl fl v0 v1 v2 (0 : Int32) s
def B_X8_keeps_41 (fl : Nat) (v0 : Nat) (s : Mem) : Option Mem :=
  nx (pI s v0 2 ((gI s v0 2) + (1 : Int32))) fun m1 =>
  bd (F_X8_copies fl v0 (0 : Int32) (gI m1 v0 2) m1) fun q3 =>
  some q3
def B_X8_keeps_11 (fl : Nat) : Nat → Nat → Int32 → Mem → Option Mem
  | 0 => fun _ _ _ => none
  | n + 1 => fun v0 v1 s =>
    if (8 : Int32) ≤ v1 then (
      nx (pI s v0 2 ((gI s v0 2) - (1 : Int32))) fun m6 =>
      B_X8_keeps_41 fl v0 m6)
    else
    bd (F_X8_copies fl v0 (v1 + (1 : Int32)) v1 s) fun q8 =>
    B_X8_keeps_11 fl n v0 (v1 + (1 : Int32)) q8
def F_X8_keeps (fl : Nat) (v0 : Nat) (s : Mem) : Option Mem :=
  if (gI s v0 2) = (8 : Int32) then (
    B_X8_keeps_11 fl fl v0 (1 : Int32) s)
  else
  B_X8_keeps_41 fl v0 s
def F_X8_isPitch (fl : Nat) (v0 : Nat) (v1 : Int32) (s : Mem) : Option Int32 :=
  bd (ldA s v0 1 0) fun r1 =>
  gd (inR (0 : Int32) r1.2) <|
  bd (F_X8_in fl v1 (0 : Int32) ((gI s r1.1 (0 : Int32).toNatClampNeg) - (1 : Int32)) s) fun q4 =>
  gd (q4 = 0 ∨ q4 = 1) <|
  some q4
def F_X8_isParty (fl : Nat) (v0 : Nat) (v1 : Int32) (s : Mem) : Option Int32 :=
  bd (ldA s v0 1 0) fun r1 =>
  gd (inR (1 : Int32) r1.2) <|
  bd (F_X8_in fl v1 (0 : Int32) ((gI s r1.1 (1 : Int32).toNatClampNeg) - (1 : Int32)) s) fun q4 =>
  gd (q4 = 0 ∨ q4 = 1) <|
  some q4
def F_X8_isNight (fl : Nat) (v0 : Int32) (s : Mem) : Option Int32 :=
  bd (F_X8_in fl v0 (0 : Int32) (59 : Int32) s) fun q1 =>
  gd (q1 = 0 ∨ q1 = 1) <|
  some q1
def F_X8_isCircuit (fl : Nat) (v0 : Int32) (s : Mem) : Option Int32 :=
  bd (F_X8_in fl v0 (0 : Int32) (2 : Int32) s) fun q1 =>
  gd (q1 = 0 ∨ q1 = 1) <|
  some q1
def F_X8_ofPitch (fl : Nat) (v0 : Nat) (v1 : Int32) (v2 : Int32) (s : Mem) : Option Int32 :=
  bd (ldA s v0 1 0) fun r1 =>
  gd (inR (((8 : Int32) + ((5 : Int32) * v1)) + v2) r1.2) <|
  some (gI s r1.1 (((8 : Int32) + ((5 : Int32) * v1)) + v2).toNatClampNeg)
def F_X8_of (fl : Nat) (v0 : Nat) (v1 : Int32) (v2 : Int32) (s : Mem) : Option Int32 :=
  bd (ldA s v0 1 0) fun r1 =>
  gd (inR (((50 : Int32) + ((10 : Int32) * v1)) + v2) r1.2) <|
  some (gI s r1.1 (((50 : Int32) + ((10 : Int32) * v1)) + v2).toNatClampNeg)
def F_X8_lays (fl : Nat) (v0 : Nat) (v1 : Int32) (v2 : Int32) (v3 : Int32) (s : Mem) : Option Mem :=
  bd (ldA s v0 1 0) fun r1 =>
  gd (inR (((50 : Int32) + ((10 : Int32) * v1)) + v2) r1.2) <|
  nx (pI s r1.1 (((50 : Int32) + ((10 : Int32) * v1)) + v2).toNatClampNeg v3) fun m4 =>
  some m4
def B_X8_addPitch_60 (fl : Nat) (v0 : Nat) (v1 : Int32) (v2 : Int32) (v3 : Int32) (v4 : Int32) (w0 : Nat) (w1 : Int32) (s : Mem) : Option (Int32 × Mem) :=
  nx (pI s w0 0 w1) fun m1 =>
  if (gI m1 v0 0) = 0 then (
    bd (F_X8_keeps fl v0 m1) fun q4 =>
    bd (ldA q4 v0 1 0) fun r6 =>
    gd (inR (0 : Int32) r6.2) <|
    bd (ldA q4 v0 1 0) fun r9 =>
    gd (inR ((8 : Int32) + ((5 : Int32) * (gI q4 r6.1 (0 : Int32).toNatClampNeg))) r9.2) <|
    nx (pI q4 r9.1 ((8 : Int32) + ((5 : Int32) * (gI q4 r6.1 (0 : Int32).toNatClampNeg))).toNatClampNeg v1) fun m12 =>
    bd (ldA m12 v0 1 0) fun r14 =>
    gd (inR (((8 : Int32) + ((5 : Int32) * (gI q4 r6.1 (0 : Int32).toNatClampNeg))) + (1 : Int32)) r14.2) <|
    nx (pI m12 r14.1 (((8 : Int32) + ((5 : Int32) * (gI q4 r6.1 (0 : Int32).toNatClampNeg))) + (1 : Int32)).toNatClampNeg v2) fun m17 =>
    bd (ldA m17 v0 1 0) fun r19 =>
    gd (inR (((8 : Int32) + ((5 : Int32) * (gI q4 r6.1 (0 : Int32).toNatClampNeg))) + (2 : Int32)) r19.2) <|
    nx (pI m17 r19.1 (((8 : Int32) + ((5 : Int32) * (gI q4 r6.1 (0 : Int32).toNatClampNeg))) + (2 : Int32)).toNatClampNeg v3) fun m22 =>
    bd (ldA m22 v0 1 0) fun r24 =>
    gd (inR (((8 : Int32) + ((5 : Int32) * (gI q4 r6.1 (0 : Int32).toNatClampNeg))) + (3 : Int32)) r24.2) <|
    nx (pI m22 r24.1 (((8 : Int32) + ((5 : Int32) * (gI q4 r6.1 (0 : Int32).toNatClampNeg))) + (3 : Int32)).toNatClampNeg v4) fun m27 =>
    bd (ldA m27 v0 1 0) fun r29 =>
    gd (inR (((8 : Int32) + ((5 : Int32) * (gI q4 r6.1 (0 : Int32).toNatClampNeg))) + (4 : Int32)) r29.2) <|
    nx (pI m27 r29.1 (((8 : Int32) + ((5 : Int32) * (gI q4 r6.1 (0 : Int32).toNatClampNeg))) + (4 : Int32)).toNatClampNeg (10 : Int32)) fun m32 =>
    bd (ldA m32 v0 1 0) fun r34 =>
    gd (inR (0 : Int32) r34.2) <|
    gd (inR (0 : Int32) r34.2) <|
    nx (pI m32 r34.1 (0 : Int32).toNatClampNeg ((gI m32 r34.1 (0 : Int32).toNatClampNeg) + (1 : Int32))) fun m38 =>
    bd (ldA m38 v0 1 0) fun r40 =>
    gd (inR (0 : Int32) r40.2) <|
    some (((gI m38 r40.1 (0 : Int32).toNatClampNeg) - (1 : Int32)), m38))
  else
  some ((0 : Int32), m1)
def B_X8_addPitch_40 (fl : Nat) (v0 : Nat) (v1 : Int32) (v2 : Int32) (v3 : Int32) (v4 : Int32) (w0 : Nat) (s : Mem) : Option (Int32 × Mem) :=
  B_X8_addPitch_60 fl v0 v1 v2 v3 v4 w0 (1 : Int32) s
def F_X8_addPitch (fl : Nat) (v0 : Nat) (v1 : Int32) (v2 : Int32) (v3 : Int32) (v4 : Int32) (s : Mem) : Option (Int32 × Mem) :=
  bd (F_X8_in fl v1 (0 : Int32) (2 : Int32) s) fun q43 =>
  if q43 = 0 then (
    B_X8_addPitch_40 fl v0 v1 v2 v3 v4 v0 s)
  else
  bd (F_X8_in fl v2 (2 : Int32) (12 : Int32) s) fun q46 =>
  if q46 = 0 then (
    B_X8_addPitch_40 fl v0 v1 v2 v3 v4 v0 s)
  else
  bd (F_X8_in fl v3 (2 : Int32) (12 : Int32) s) fun q49 =>
  if q49 = 0 then (
    B_X8_addPitch_40 fl v0 v1 v2 v3 v4 v0 s)
  else
  bd (F_X8_in fl v4 (-1 : Int32) (2 : Int32) s) fun q52 =>
  if q52 = 0 then (
    B_X8_addPitch_40 fl v0 v1 v2 v3 v4 v0 s)
  else
  bd (ldA s v0 1 0) fun r55 =>
  gd (inR (0 : Int32) r55.2) <|
  if (gI s r55.1 (0 : Int32).toNatClampNeg) = (6 : Int32) then (
    B_X8_addPitch_60 fl v0 v1 v2 v3 v4 v0 (2 : Int32) s)
  else
  B_X8_addPitch_60 fl v0 v1 v2 v3 v4 v0 (0 : Int32) s
def B_X8_loads_118 (k2 : Nat → Int32 → Int32 → Mem → Option Mem) (fl : Nat) (v0 : Nat) (v1 : Int32) (v2 : Int32) (w0 : Nat) (w1 : Int32) (w2 : Int32) (s : Mem) : Option Mem :=
  bd (aLen w0 0) fun N1 =>
  gd (inR w1 N1) <|
  nx (pI s w0 w1.toNatClampNeg w2) fun m4 =>
  k2 v0 v1 (v2 + (1 : Int32)) m4
def B_X8_loads_98 (k2 : Nat → Int32 → Int32 → Mem → Option Mem) (fl : Nat) (v0 : Nat) (v1 : Int32) (v2 : Int32) (v3 : Int32) (w0 : Nat) (w1 : Int32) (w2 : Int32) (s : Mem) : Option Mem :=
  bd (aLen w0 0) fun N6 =>
  gd (inR w1 N6) <|
  nx (pI s w0 w1.toNatClampNeg w2) fun m9 =>
  bd (ldA m9 v0 7 0) fun r11 =>
  if v3 = 0 then (
    B_X8_loads_118 k2 fl v0 v1 v2 r11.1 v2 (0 : Int32) m9)
  else
  bd (F_X8_of fl v0 v2 (3 : Int32) m9) fun q14 =>
  B_X8_loads_118 k2 fl v0 v1 v2 r11.1 v2 q14 m9
def B_X8_loads_78 (k2 : Nat → Int32 → Int32 → Mem → Option Mem) (fl : Nat) (v0 : Nat) (v1 : Int32) (v2 : Int32) (v3 : Int32) (w0 : Nat) (w1 : Int32) (w2 : Int32) (s : Mem) : Option Mem :=
  bd (aLen w0 0) fun N16 =>
  gd (inR w1 N16) <|
  nx (pI s w0 w1.toNatClampNeg w2) fun m19 =>
  bd (ldA m19 v0 6 0) fun r21 =>
  if v3 = 0 then (
    B_X8_loads_98 k2 fl v0 v1 v2 v3 r21.1 v2 (0 : Int32) m19)
  else
  bd (F_X8_of fl v0 v2 (5 : Int32) m19) fun q24 =>
  B_X8_loads_98 k2 fl v0 v1 v2 v3 r21.1 v2 q24 m19
def B_X8_loads_58 (k2 : Nat → Int32 → Int32 → Mem → Option Mem) (fl : Nat) (v0 : Nat) (v1 : Int32) (v2 : Int32) (v3 : Int32) (w0 : Nat) (w1 : Int32) (w2 : Int32) (s : Mem) : Option Mem :=
  bd (aLen w0 0) fun N26 =>
  gd (inR w1 N26) <|
  nx (pI s w0 w1.toNatClampNeg w2) fun m29 =>
  bd (ldA m29 v0 5 0) fun r31 =>
  if v3 = 0 then (
    B_X8_loads_78 k2 fl v0 v1 v2 v3 r31.1 v2 (0 : Int32) m29)
  else
  bd (F_X8_of fl v0 v2 (4 : Int32) m29) fun q34 =>
  B_X8_loads_78 k2 fl v0 v1 v2 v3 r31.1 v2 q34 m29
def B_X8_loads_37 (k2 : Nat → Int32 → Int32 → Mem → Option Mem) (fl : Nat) (v0 : Nat) (v1 : Int32) (v2 : Int32) (w0 : Int32) (s : Mem) : Option Mem :=
  bd (ldA s v0 4 0) fun r36 =>
  if w0 = 0 then (
    B_X8_loads_58 k2 fl v0 v1 v2 w0 r36.1 v2 (-1 : Int32) s)
  else
  bd (F_X8_of fl v0 v2 (6 : Int32) s) fun q39 =>
  B_X8_loads_58 k2 fl v0 v1 v2 w0 r36.1 v2 q39 s
def B_X8_loads_36 (k2 : Nat → Int32 → Int32 → Mem → Option Mem) (fl : Nat) (v0 : Nat) (v1 : Int32) (v2 : Int32) (s : Mem) : Option Mem :=
  B_X8_loads_37 k2 fl v0 v1 v2 (0 : Int32) s
def B_X8_loads_2 (fl : Nat) : Nat → Nat → Int32 → Int32 → Mem → Option Mem
  | 0 => fun _ _ _ _ => none
  | n + 1 => fun v0 v1 v2 s =>
    if (12 : Int32) < v2 then (
      some s)
    else
    bd (F_X8_isParty fl v0 v2 s) fun q42 =>
    if q42 = 0 then (
      B_X8_loads_36 (B_X8_loads_2 fl n) fl v0 v1 v2 s)
    else
    bd (F_X8_of fl v0 v2 (8 : Int32) s) fun q45 =>
    if q45 = (1 : Int32) then (
      if v2 = v1 then (
        B_X8_loads_36 (B_X8_loads_2 fl n) fl v0 v1 v2 s)
      else
      B_X8_loads_37 (B_X8_loads_2 fl n) fl v0 v1 v2 (1 : Int32) s)
    else
    B_X8_loads_36 (B_X8_loads_2 fl n) fl v0 v1 v2 s
def F_X8_loads (fl : Nat) (v0 : Nat) (v1 : Int32) (s : Mem) : Option Mem :=
  B_X8_loads_2 fl fl v0 v1 (0 : Int32) s
def F_X8_mask (fl : Nat) (v0 : Int32) (v1 : Int32) (s : Mem) : Option Int64 :=
  some ((((1 : Int64) <<< (Int32.toInt64 v1 &&& 63)) - (1 : Int64)) <<< (Int32.toInt64 v0 &&& 63))
def B_X8_maskOf__51 (k5 : Nat → Int32 → Int32 → Int64 → Int32 → Option Int64) (fl : Nat) (s : Mem) (v0 : Nat) (v1 : Int32) (v2 : Int32) (v5 : Int32) (w0 : Int64) (w1 : Int64) : Option Int64 :=
  k5 v0 v1 v2 (w0 ||| w1) (v5 + (1 : Int32))
def B_X8_maskOf__50 (k5 : Nat → Int32 → Int32 → Int64 → Int32 → Option Int64) (fl : Nat) (s : Mem) (v0 : Nat) (v1 : Int32) (v2 : Int32) (v5 : Int32) (w0 : Int64) : Option Int64 :=
  B_X8_maskOf__51 k5 fl s v0 v1 v2 v5 w0 (0 : Int64)
def B_X8_maskOf__5 (fl : Nat) (s : Mem) : Nat → Nat → Int32 → Int32 → Int64 → Int32 → Option Int64
  | 0 => fun _ _ _ _ _ => none
  | n + 1 => fun v0 v1 v2 v3 v5 =>
    if (12 : Int32) < v5 then (
      some v3)
    else
    bd (ldA s v0 4 0) fun r2 =>
    gd (inR v5 r2.2) <|
    if (gI s r2.1 v5.toNatClampNeg) = v1 then (
      if v5 = v2 then (
        B_X8_maskOf__50 (B_X8_maskOf__5 fl s n) fl s v0 v1 v2 v5 v3)
      else
      bd (ldA s v0 5 0) fun r7 =>
      gd (inR v5 r7.2) <|
      bd (ldA s v0 6 0) fun r10 =>
      gd (inR v5 r10.2) <|
      bd (F_X8_mask fl (gI s r7.1 v5.toNatClampNeg) (gI s r10.1 v5.toNatClampNeg) s) fun q13 =>
      B_X8_maskOf__51 (B_X8_maskOf__5 fl s n) fl s v0 v1 v2 v5 v3 q13)
    else
    B_X8_maskOf__50 (B_X8_maskOf__5 fl s n) fl s v0 v1 v2 v5 v3
def F_X8_maskOf_ (fl : Nat) (v0 : Nat) (v1 : Int32) (v2 : Int32) (s : Mem) : Option Int64 :=
  B_X8_maskOf__5 fl s fl v0 v1 v2 (0 : Int64) (0 : Int32)
def F_X8_maskOf (fl : Nat) (v0 : Nat) (v1 : Int32) (s : Mem) : Option Int64 :=
  bd (F_X8_maskOf_ fl v0 v1 (-1 : Int32) s) fun q1 =>
  some q1
def B_X8_bits_4 (fl : Nat) (s : Mem) : Nat → Int64 → Int32 → Int32 → Option Int32
  | 0 => fun _ _ _ => none
  | n + 1 => fun v0 v2 v3 =>
    if (60 : Int32) ≤ v3 then (
      some v2)
    else
    B_X8_bits_4 fl s n v0 (v2 + (Int64.toInt32 ((v0 >>> (Int32.toInt64 v3 &&& 63)) &&& (1 : Int64)))) (v3 + (1 : Int32))
def F_X8_bits (fl : Nat) (v0 : Int64) (s : Mem) : Option Int32 :=
  B_X8_bits_4 fl s fl v0 (0 : Int32) (0 : Int32)
def B_X8_gaps_104 (k9 : Nat → Int64 → Int32 → Int32 → Int32 → Int32 → Mem → Option (Int32 × Mem)) (fl : Nat) (v0 : Nat) (v1 : Int64) (v3 : Int32) (v4 : Int32) (v5 : Int32) (v6 : Int32) (s : Mem) : Option (Int32 × Mem) :=
  k9 v0 v1 v3 v4 v5 (v6 + (1 : Int32)) s
def B_X8_gaps_100 (k9 : Nat → Int64 → Int32 → Int32 → Int32 → Int32 → Mem → Option (Int32 × Mem)) (fl : Nat) (v0 : Nat) (v1 : Int64) (v3 : Int32) (v4 : Int32) (v6 : Int32) (s : Mem) : Option (Int32 × Mem) :=
  B_X8_gaps_104 k9 fl v0 v1 v3 v4 v6 v6 s
def B_X8_gaps_94 (k9 : Nat → Int64 → Int32 → Int32 → Int32 → Int32 → Mem → Option (Int32 × Mem)) (fl : Nat) (v0 : Nat) (v1 : Int64) (v3 : Int32) (v4 : Int32) (v6 : Int32) (w0 : Nat) (w1 : Int32) (s : Mem) : Option (Int32 × Mem) :=
  nx (pI s w0 9 w1) fun m1 =>
  B_X8_gaps_100 k9 fl v0 v1 v3 (v4 + (1 : Int32)) v6 m1
def B_X8_gaps_73 (k9 : Nat → Int64 → Int32 → Int32 → Int32 → Int32 → Mem → Option (Int32 × Mem)) (fl : Nat) (v0 : Nat) (v1 : Int64) (v3 : Int32) (v4 : Int32) (v6 : Int32) (w0 : Nat) (w1 : Int32) (s : Mem) : Option (Int32 × Mem) :=
  nx (pI s w0 8 w1) fun m3 =>
  if v4 = v3 then (
    B_X8_gaps_94 k9 fl v0 v1 v3 v4 v6 v0 (v6 - (1 : Int32)) m3)
  else
  B_X8_gaps_94 k9 fl v0 v1 v3 v4 v6 v0 (gI m3 v0 9) m3
def B_X8_gaps_9 (fl : Nat) : Nat → Nat → Int64 → Int32 → Int32 → Int32 → Int32 → Mem → Option (Int32 × Mem)
  | 0 => fun _ _ _ _ _ _ _ => none
  | n + 1 => fun v0 v1 v3 v4 v5 v6 s =>
    if (60 : Int32) ≤ v6 then (
      some (v4, s))
    else
    if (lg_cmp ((v1 >>> (Int32.toInt64 v6 &&& 63)) &&& (1 : Int64)) (0 : Int64)) = 0 then (
      B_X8_gaps_104 (B_X8_gaps_9 fl n) fl v0 v1 v3 v4 v5 v6 s)
    else
    if v5 < 0 then (
      B_X8_gaps_100 (B_X8_gaps_9 fl n) fl v0 v1 v3 v4 v6 s)
    else
    bd (ldA s v0 1 0) fun r9 =>
    gd (inR (4 : Int32) r9.2) <|
    bd (F_X8_in fl ((v6 - v5) - (1 : Int32)) (1 : Int32) (gI s r9.1 (4 : Int32).toNatClampNeg) s) fun q12 =>
    if q12 = 0 then (
      B_X8_gaps_100 (B_X8_gaps_9 fl n) fl v0 v1 v3 v4 v6 s)
    else
    if v4 = v3 then (
      B_X8_gaps_73 (B_X8_gaps_9 fl n) fl v0 v1 v3 v4 v6 v0 (v5 + (1 : Int32)) s)
    else
    B_X8_gaps_73 (B_X8_gaps_9 fl n) fl v0 v1 v3 v4 v6 v0 (gI s v0 8) s
def F_X8_gaps (fl : Nat) (v0 : Nat) (v1 : Int64) (v3 : Int32) (s : Mem) : Option (Int32 × Mem) :=
  B_X8_gaps_9 fl fl v0 v1 v3 (0 : Int32) (-1 : Int32) (0 : Int32) s
def F_X8_gapsOf (fl : Nat) (v0 : Nat) (v1 : Int64) (s : Mem) : Option (Int32 × Mem) :=
  bd (F_X8_gaps fl v0 v1 (-1 : Int32) s) fun q1 =>
  some (q1.1, q1.2)
def B_X8_pitch_28 (fl : Nat) (v0 : Nat) (v1 : Int32) (v2 : Int32) (w0 : Nat) (w1 : Int32) (s : Mem) : Option (Int32 × Mem) :=
  nx (pI s w0 0 w1) fun m1 =>
  if (gI m1 v0 0) = 0 then (
    if (5 : Int32) ≤ v2 then (
      bd (F_X8_loads fl v0 (-1 : Int32) m1) fun q5 =>
      if v2 = (5 : Int32) then (
        bd (F_X8_maskOf fl v0 v1 q5) fun q12 =>
        bd (F_X8_bits fl q12 q5) fun q14 =>
        some (q14, q5))
      else
      bd (F_X8_maskOf fl v0 v1 q5) fun q8 =>
      bd (F_X8_gapsOf fl v0 q8 q5) fun q10 =>
      some (q10.1, q10.2))
    else
    bd (F_X8_ofPitch fl v0 v1 v2 m1) fun q16 =>
    some (q16, m1))
  else
  some ((0 : Int32), m1)
def F_X8_pitch (fl : Nat) (v0 : Nat) (v1 : Int32) (v2 : Int32) (s : Mem) : Option (Int32 × Mem) :=
  bd (F_X8_isPitch fl v0 v1 s) fun q18 =>
  if q18 = 0 then (
    B_X8_pitch_28 fl v0 v1 v2 v0 (1 : Int32) s)
  else
  bd (F_X8_in fl v2 (0 : Int32) (6 : Int32) s) fun q21 =>
  if q21 = 0 then (
    B_X8_pitch_28 fl v0 v1 v2 v0 (2 : Int32) s)
  else
  B_X8_pitch_28 fl v0 v1 v2 v0 (0 : Int32) s
def F_X8_sets (fl : Nat) (v0 : Nat) (v1 : Int32) (v2 : Int32) (s : Mem) : Option (Int32 × Mem) :=
  bd (F_X8_keeps fl v0 s) fun q1 =>
  bd (ldA q1 v0 1 0) fun r3 =>
  gd (inR v1 r3.2) <|
  bd (ldA q1 v0 1 0) fun r6 =>
  gd (inR v1 r6.2) <|
  nx (pI q1 r6.1 v1.toNatClampNeg v2) fun m9 =>
  some ((gI q1 r3.1 v1.toNatClampNeg), m9)
def B_X8_setLimit_27 (fl : Nat) (v0 : Nat) (v1 : Int32) (v2 : Int32) (w0 : Nat) (w1 : Int32) (s : Mem) : Option (Int32 × Mem) :=
  nx (pI s w0 0 w1) fun m1 =>
  if (gI m1 v0 0) = 0 then (
    bd (F_X8_sets fl v0 ((5 : Int32) + v1) v2 m1) fun q4 =>
    some (q4.1, q4.2))
  else
  some ((0 : Int32), m1)
def F_X8_setLimit (fl : Nat) (v0 : Nat) (v1 : Int32) (v2 : Int32) (s : Mem) : Option (Int32 × Mem) :=
  bd (F_X8_isCircuit fl v1 s) fun q6 =>
  if q6 = 0 then (
    B_X8_setLimit_27 fl v0 v1 v2 v0 (1 : Int32) s)
  else
  bd (F_X8_in fl v2 (0 : Int32) (40 : Int32) s) fun q9 =>
  if q9 = 0 then (
    B_X8_setLimit_27 fl v0 v1 v2 v0 (2 : Int32) s)
  else
  B_X8_setLimit_27 fl v0 v1 v2 v0 (0 : Int32) s
def B_X8_setRate_28 (fl : Nat) (v0 : Nat) (v1 : Int32) (v2 : Int32) (w0 : Nat) (w1 : Int32) (s : Mem) : Option (Int32 × Mem) :=
  nx (pI s w0 0 w1) fun m1 =>
  if (gI m1 v0 0) = 0 then (
    bd (F_X8_sets fl v0 (((8 : Int32) + ((5 : Int32) * v1)) + (4 : Int32)) v2 m1) fun q4 =>
    some (q4.1, q4.2))
  else
  some ((0 : Int32), m1)
def F_X8_setRate (fl : Nat) (v0 : Nat) (v1 : Int32) (v2 : Int32) (s : Mem) : Option (Int32 × Mem) :=
  bd (F_X8_isPitch fl v0 v1 s) fun q6 =>
  if q6 = 0 then (
    B_X8_setRate_28 fl v0 v1 v2 v0 (1 : Int32) s)
  else
  bd (F_X8_in fl v2 (1 : Int32) (99 : Int32) s) fun q9 =>
  if q9 = 0 then (
    B_X8_setRate_28 fl v0 v1 v2 v0 (2 : Int32) s)
  else
  B_X8_setRate_28 fl v0 v1 v2 v0 (0 : Int32) s
def B_X8_setGap_15 (fl : Nat) (v0 : Nat) (v1 : Int32) (w0 : Nat) (w1 : Int32) (s : Mem) : Option (Int32 × Mem) :=
  nx (pI s w0 0 w1) fun m1 =>
  if (gI m1 v0 0) = 0 then (
    bd (F_X8_sets fl v0 (4 : Int32) v1 m1) fun q4 =>
    some (q4.1, q4.2))
  else
  some ((0 : Int32), m1)
def F_X8_setGap (fl : Nat) (v0 : Nat) (v1 : Int32) (s : Mem) : Option (Int32 × Mem) :=
  bd (F_X8_in fl v1 (0 : Int32) (5 : Int32) s) fun q6 =>
  if q6 = 0 then (
    B_X8_setGap_15 fl v0 v1 v0 (1 : Int32) s)
  else
  B_X8_setGap_15 fl v0 v1 v0 (0 : Int32) s
def B_X8_addSeason_47 (fl : Nat) (v0 : Nat) (v1 : Int32) (v2 : Int32) (v3 : Int32) (w0 : Nat) (w1 : Int32) (s : Mem) : Option (Int32 × Mem) :=
  nx (pI s w0 0 w1) fun m1 =>
  if (gI m1 v0 0) = 0 then (
    bd (F_X8_keeps fl v0 m1) fun q4 =>
    bd (ldA q4 v0 1 0) fun r6 =>
    gd (inR (2 : Int32) r6.2) <|
    bd (ldA q4 v0 1 0) fun r9 =>
    gd (inR ((38 : Int32) + ((3 : Int32) * (gI q4 r6.1 (2 : Int32).toNatClampNeg))) r9.2) <|
    nx (pI q4 r9.1 ((38 : Int32) + ((3 : Int32) * (gI q4 r6.1 (2 : Int32).toNatClampNeg))).toNatClampNeg v1) fun m12 =>
    bd (ldA m12 v0 1 0) fun r14 =>
    gd (inR (((38 : Int32) + ((3 : Int32) * (gI q4 r6.1 (2 : Int32).toNatClampNeg))) + (1 : Int32)) r14.2) <|
    nx (pI m12 r14.1 (((38 : Int32) + ((3 : Int32) * (gI q4 r6.1 (2 : Int32).toNatClampNeg))) + (1 : Int32)).toNatClampNeg v2) fun m17 =>
    bd (ldA m17 v0 1 0) fun r19 =>
    gd (inR (((38 : Int32) + ((3 : Int32) * (gI q4 r6.1 (2 : Int32).toNatClampNeg))) + (2 : Int32)) r19.2) <|
    nx (pI m17 r19.1 (((38 : Int32) + ((3 : Int32) * (gI q4 r6.1 (2 : Int32).toNatClampNeg))) + (2 : Int32)).toNatClampNeg v3) fun m22 =>
    bd (ldA m22 v0 1 0) fun r24 =>
    gd (inR (2 : Int32) r24.2) <|
    gd (inR (2 : Int32) r24.2) <|
    nx (pI m22 r24.1 (2 : Int32).toNatClampNeg ((gI m22 r24.1 (2 : Int32).toNatClampNeg) + (1 : Int32))) fun m28 =>
    bd (ldA m28 v0 1 0) fun r30 =>
    gd (inR (2 : Int32) r30.2) <|
    some (((gI m28 r30.1 (2 : Int32).toNatClampNeg) - (1 : Int32)), m28))
  else
  some ((0 : Int32), m1)
def B_X8_addSeason_28 (fl : Nat) (v0 : Nat) (v1 : Int32) (v2 : Int32) (v3 : Int32) (w0 : Nat) (s : Mem) : Option (Int32 × Mem) :=
  B_X8_addSeason_47 fl v0 v1 v2 v3 w0 (1 : Int32) s
def F_X8_addSeason (fl : Nat) (v0 : Nat) (v1 : Int32) (v2 : Int32) (v3 : Int32) (s : Mem) : Option (Int32 × Mem) :=
  bd (F_X8_isNight fl v1 s) fun q33 =>
  if q33 = 0 then (
    B_X8_addSeason_28 fl v0 v1 v2 v3 v0 s)
  else
  bd (F_X8_in fl v2 v1 (59 : Int32) s) fun q36 =>
  if q36 = 0 then (
    B_X8_addSeason_28 fl v0 v1 v2 v3 v0 s)
  else
  bd (F_X8_in fl v3 (1 : Int32) (14 : Int32) s) fun q39 =>
  if q39 = 0 then (
    B_X8_addSeason_28 fl v0 v1 v2 v3 v0 s)
  else
  bd (ldA s v0 1 0) fun r42 =>
  gd (inR (2 : Int32) r42.2) <|
  if (gI s r42.1 (2 : Int32).toNatClampNeg) = (4 : Int32) then (
    B_X8_addSeason_47 fl v0 v1 v2 v3 v0 (2 : Int32) s)
  else
  B_X8_addSeason_47 fl v0 v1 v2 v3 v0 (0 : Int32) s
def B_X8_dropSeason_55 (fl : Nat) : Nat → Nat → Int32 → Mem → Option (Int32 × Mem)
  | 0 => fun _ _ _ => none
  | n + 1 => fun v0 v2 s =>
    bd (ldA s v0 1 0) fun r1 =>
    gd (inR (2 : Int32) r1.2) <|
    if ((38 : Int32) + ((3 : Int32) * (gI s r1.1 (2 : Int32).toNatClampNeg))) ≤ v2 then (
      bd (ldA s v0 1 0) fun r5 =>
      gd (inR (2 : Int32) r5.2) <|
      some ((gI s r5.1 (2 : Int32).toNatClampNeg), s))
    else
    bd (ldA s v0 1 0) fun r8 =>
    bd (ldA s v0 1 0) fun r10 =>
    gd (inR (v2 + (3 : Int32)) r10.2) <|
    gd (inR v2 r8.2) <|
    nx (pI s r8.1 v2.toNatClampNeg (gI s r10.1 (v2 + (3 : Int32)).toNatClampNeg)) fun m14 =>
    B_X8_dropSeason_55 fl n v0 (v2 + (1 : Int32)) m14
def B_X8_dropSeason_22 (fl : Nat) (v0 : Nat) (v1 : Int32) (w0 : Nat) (w1 : Int32) (s : Mem) : Option (Int32 × Mem) :=
  nx (pI s w0 0 w1) fun m16 =>
  if (gI m16 v0 0) = 0 then (
    bd (F_X8_keeps fl v0 m16) fun q19 =>
    bd (ldA q19 v0 1 0) fun r21 =>
    gd (inR (2 : Int32) r21.2) <|
    gd (inR (2 : Int32) r21.2) <|
    nx (pI q19 r21.1 (2 : Int32).toNatClampNeg ((gI q19 r21.1 (2 : Int32).toNatClampNeg) - (1 : Int32))) fun m25 =>
    B_X8_dropSeason_55 fl fl v0 ((38 : Int32) + ((3 : Int32) * v1)) m25)
  else
  some ((0 : Int32), m16)
def F_X8_dropSeason (fl : Nat) (v0 : Nat) (v1 : Int32) (s : Mem) : Option (Int32 × Mem) :=
  bd (ldA s v0 1 0) fun r27 =>
  gd (inR (2 : Int32) r27.2) <|
  bd (F_X8_in fl v1 (0 : Int32) ((gI s r27.1 (2 : Int32).toNatClampNeg) - (1 : Int32)) s) fun q30 =>
  if q30 = 0 then (
    B_X8_dropSeason_22 fl v0 v1 v0 (1 : Int32) s)
  else
  B_X8_dropSeason_22 fl v0 v1 v0 (0 : Int32) s
def B_X8_season_35 (fl : Nat) (v0 : Nat) (v1 : Int32) (v2 : Int32) (w0 : Nat) (w1 : Int32) (s : Mem) : Option (Int32 × Mem) :=
  nx (pI s w0 0 w1) fun m1 =>
  if (gI m1 v0 0) = 0 then (
    bd (ldA m1 v0 1 0) fun r4 =>
    gd (inR (((38 : Int32) + ((3 : Int32) * v1)) + v2) r4.2) <|
    some ((gI m1 r4.1 (((38 : Int32) + ((3 : Int32) * v1)) + v2).toNatClampNeg), m1))
  else
  some ((0 : Int32), m1)
def F_X8_season (fl : Nat) (v0 : Nat) (v1 : Int32) (v2 : Int32) (s : Mem) : Option (Int32 × Mem) :=
  bd (ldA s v0 1 0) fun r7 =>
  gd (inR (2 : Int32) r7.2) <|
  bd (F_X8_in fl v1 (0 : Int32) ((gI s r7.1 (2 : Int32).toNatClampNeg) - (1 : Int32)) s) fun q10 =>
  if q10 = 0 then (
    B_X8_season_35 fl v0 v1 v2 v0 (1 : Int32) s)
  else
  bd (F_X8_in fl v2 (0 : Int32) (2 : Int32) s) fun q13 =>
  if q13 = 0 then (
    B_X8_season_35 fl v0 v1 v2 v0 (2 : Int32) s)
  else
  B_X8_season_35 fl v0 v1 v2 v0 (0 : Int32) s
def B_X8_asked_79 (k5 : Nat → Int32 → Int32 → Int32 → Int32 → Option Int32) (fl : Nat) (s : Mem) (v0 : Nat) (v1 : Int32) (v2 : Int32) (v4 : Int32) (w0 : Int32) : Option Int32 :=
  k5 v0 v1 v2 w0 (v4 + (1 : Int32))
def B_X8_asked_78 (k5 : Nat → Int32 → Int32 → Int32 → Int32 → Option Int32) (fl : Nat) (s : Mem) (v0 : Nat) (v1 : Int32) (v2 : Int32) (v3 : Int32) (v4 : Int32) : Option Int32 :=
  B_X8_asked_79 k5 fl s v0 v1 v2 v4 v3
def B_X8_asked_5 (fl : Nat) (s : Mem) : Nat → Nat → Int32 → Int32 → Int32 → Int32 → Option Int32
  | 0 => fun _ _ _ _ _ => none
  | n + 1 => fun v0 v1 v2 v3 v4 =>
    bd (ldA s v0 1 0) fun r1 =>
    gd (inR (2 : Int32) r1.2) <|
    if (gI s r1.1 (2 : Int32).toNatClampNeg) ≤ v4 then (
      some v3)
    else
    bd (ldA s v0 1 0) fun r5 =>
    gd (inR ((38 : Int32) + ((3 : Int32) * v4)) r5.2) <|
    if ((v1 + v2) - (1 : Int32)) < (gI s r5.1 ((38 : Int32) + ((3 : Int32) * v4)).toNatClampNeg) then (
      B_X8_asked_78 (B_X8_asked_5 fl s n) fl s v0 v1 v2 v3 v4)
    else
    bd (ldA s v0 1 0) fun r9 =>
    gd (inR (((38 : Int32) + ((3 : Int32) * v4)) + (1 : Int32)) r9.2) <|
    if (gI s r9.1 (((38 : Int32) + ((3 : Int32) * v4)) + (1 : Int32)).toNatClampNeg) < v1 then (
      B_X8_asked_78 (B_X8_asked_5 fl s n) fl s v0 v1 v2 v3 v4)
    else
    bd (ldA s v0 1 0) fun r13 =>
    gd (inR (((38 : Int32) + ((3 : Int32) * v4)) + (2 : Int32)) r13.2) <|
    if (gI s r13.1 (((38 : Int32) + ((3 : Int32) * v4)) + (2 : Int32)).toNatClampNeg) ≤ v3 then (
      B_X8_asked_78 (B_X8_asked_5 fl s n) fl s v0 v1 v2 v3 v4)
    else
    bd (ldA s v0 1 0) fun r17 =>
    gd (inR (((38 : Int32) + ((3 : Int32) * v4)) + (2 : Int32)) r17.2) <|
    B_X8_asked_79 (B_X8_asked_5 fl s n) fl s v0 v1 v2 v4 (gI s r17.1 (((38 : Int32) + ((3 : Int32) * v4)) + (2 : Int32)).toNatClampNeg)
def F_X8_asked (fl : Nat) (v0 : Nat) (v1 : Int32) (v2 : Int32) (s : Mem) : Option Int32 :=
  B_X8_asked_5 fl s fl v0 v1 v2 (1 : Int32) (0 : Int32)
def B_X8_leastStay_34 (fl : Nat) (v0 : Nat) (v1 : Int32) (v2 : Int32) (w0 : Nat) (w1 : Int32) (s : Mem) : Option (Int32 × Mem) :=
  nx (pI s w0 0 w1) fun m1 =>
  if (gI m1 v0 0) = 0 then (
    bd (F_X8_asked fl v0 v1 v2 m1) fun q4 =>
    some (q4, m1))
  else
  some ((0 : Int32), m1)
def B_X8_leastStay_33 (fl : Nat) (v0 : Nat) (v1 : Int32) (v2 : Int32) (w0 : Nat) (s : Mem) : Option (Int32 × Mem) :=
  B_X8_leastStay_34 fl v0 v1 v2 w0 (1 : Int32) s
def F_X8_leastStay (fl : Nat) (v0 : Nat) (v1 : Int32) (v2 : Int32) (s : Mem) : Option (Int32 × Mem) :=
  bd (F_X8_isNight fl v1 s) fun q6 =>
  if q6 = 0 then (
    B_X8_leastStay_33 fl v0 v1 v2 v0 s)
  else
  bd (F_X8_in fl v2 (1 : Int32) (14 : Int32) s) fun q9 =>
  if q9 = 0 then (
    B_X8_leastStay_33 fl v0 v1 v2 v0 s)
  else
  bd (F_X8_isNight fl ((v1 + v2) - (1 : Int32)) s) fun q12 =>
  if q12 = 0 then (
    B_X8_leastStay_33 fl v0 v1 v2 v0 s)
  else
  B_X8_leastStay_34 fl v0 v1 v2 v0 (0 : Int32) s
def F_X8_comes (fl : Nat) (v0 : Nat) (v1 : Int32) (v2 : Int32) (v3 : Int32) (s : Mem) : Option Mem :=
  bd (ldA s v0 5 0) fun r1 =>
  gd (inR (12 : Int32) r1.2) <|
  nx (pI s r1.1 (12 : Int32).toNatClampNeg v2) fun m4 =>
  bd (ldA m4 v0 6 0) fun r6 =>
  gd (inR (12 : Int32) r6.2) <|
  nx (pI m4 r6.1 (12 : Int32).toNatClampNeg v3) fun m9 =>
  bd (ldA m9 v0 7 0) fun r11 =>
  gd (inR (12 : Int32) r11.2) <|
  nx (pI m9 r11.1 (12 : Int32).toNatClampNeg v1) fun m14 =>
  some m14
def B_X8_gapsOfAll_4 (fl : Nat) : Nat → Nat → Int32 → Int32 → Mem → Option (Int32 × Mem)
  | 0 => fun _ _ _ _ => none
  | n + 1 => fun v0 v1 v2 s =>
    bd (ldA s v0 1 0) fun r1 =>
    gd (inR (0 : Int32) r1.2) <|
    if (gI s r1.1 (0 : Int32).toNatClampNeg) ≤ v2 then (
      some (v1, s))
    else
    bd (F_X8_maskOf fl v0 v2 s) fun q5 =>
    bd (F_X8_gapsOf fl v0 q5 s) fun q7 =>
    B_X8_gapsOfAll_4 fl n v0 (v1 + q7.1) (v2 + (1 : Int32)) q7.2
def F_X8_gapsOfAll (fl : Nat) (v0 : Nat) (s : Mem) : Option (Int32 × Mem) :=
  B_X8_gapsOfAll_4 fl fl v0 (0 : Int32) (0 : Int32) s
def B_X8_powerAt_81 (k5 : Nat → Int32 → Int32 → Int32 → Int32 → Option Int32) (fl : Nat) (s : Mem) (v0 : Nat) (v1 : Int32) (v2 : Int32) (v4 : Int32) (w0 : Int32) (w1 : Int32) : Option Int32 :=
  k5 v0 v1 v2 (w0 + w1) (v4 + (1 : Int32))
def B_X8_powerAt_80 (k5 : Nat → Int32 → Int32 → Int32 → Int32 → Option Int32) (fl : Nat) (s : Mem) (v0 : Nat) (v1 : Int32) (v2 : Int32) (v4 : Int32) (w0 : Int32) : Option Int32 :=
  B_X8_powerAt_81 k5 fl s v0 v1 v2 v4 w0 (0 : Int32)
def B_X8_powerAt_5 (fl : Nat) (s : Mem) : Nat → Nat → Int32 → Int32 → Int32 → Int32 → Option Int32
  | 0 => fun _ _ _ _ _ => none
  | n + 1 => fun v0 v1 v2 v3 v4 =>
    if (12 : Int32) < v4 then (
      some v3)
    else
    bd (ldA s v0 4 0) fun r2 =>
    gd (inR v4 r2.2) <|
    if (gI s r2.1 v4.toNatClampNeg) < 0 then (
      B_X8_powerAt_80 (B_X8_powerAt_5 fl s n) fl s v0 v1 v2 v4 v3)
    else
    bd (ldA s v0 4 0) fun r6 =>
    gd (inR v4 r6.2) <|
    bd (F_X8_ofPitch fl v0 (gI s r6.1 v4.toNatClampNeg) (3 : Int32) s) fun q9 =>
    if q9 = v1 then (
      bd (ldA s v0 5 0) fun r12 =>
      gd (inR v4 r12.2) <|
      bd (ldA s v0 5 0) fun r15 =>
      gd (inR v4 r15.2) <|
      bd (ldA s v0 6 0) fun r18 =>
      gd (inR v4 r18.2) <|
      bd (F_X8_in fl v2 (gI s r12.1 v4.toNatClampNeg) (((gI s r15.1 v4.toNatClampNeg) + (gI s r18.1 v4.toNatClampNeg)) - (1 : Int32)) s) fun q21 =>
      if q21 = 0 then (
        B_X8_powerAt_80 (B_X8_powerAt_5 fl s n) fl s v0 v1 v2 v4 v3)
      else
      bd (ldA s v0 7 0) fun r24 =>
      gd (inR v4 r24.2) <|
      B_X8_powerAt_81 (B_X8_powerAt_5 fl s n) fl s v0 v1 v2 v4 v3 (gI s r24.1 v4.toNatClampNeg))
    else
    B_X8_powerAt_80 (B_X8_powerAt_5 fl s n) fl s v0 v1 v2 v4 v3
def F_X8_powerAt (fl : Nat) (v0 : Nat) (v1 : Int32) (v2 : Int32) (s : Mem) : Option Int32 :=
  B_X8_powerAt_5 fl s fl v0 v1 v2 (0 : Int32) (0 : Int32)
def B_X8_fits_53 (fl : Nat) (s : Mem) (v0 : Nat) (v4 : Int32) (v5 : Int32) : Option Int32 :=
  if v4 = 0 then (
    some (1 : Int32))
  else
  bd (F_X8_ofPitch fl v0 v5 (3 : Int32) s) fun q2 =>
  if q2 < 0 then (
    some (0 : Int32))
  else
  some (1 : Int32)
def B_X8_fits_41 (fl : Nat) (s : Mem) (v0 : Nat) (v2 : Int32) (v3 : Int32) (v4 : Int32) (v5 : Int32) (v6 : Int32) (v7 : Int32) : Option Int32 :=
  if v6 < v3 then (
    some (0 : Int32))
  else
  if v7 < v2 then (
    some (0 : Int32))
  else
  B_X8_fits_53 fl s v0 v4 v5
def F_X8_fits (fl : Nat) (v0 : Nat) (v1 : Int32) (v2 : Int32) (v3 : Int32) (v4 : Int32) (v5 : Int32) (s : Mem) : Option Int32 :=
  bd (F_X8_ofPitch fl v0 v5 (1 : Int32) s) fun q7 =>
  bd (F_X8_ofPitch fl v0 v5 (2 : Int32) s) fun q9 =>
  bd (F_X8_ofPitch fl v0 v5 (0 : Int32) s) fun q11 =>
  if q11 < v1 then (
    some (0 : Int32))
  else
  if q7 < v2 then (
    B_X8_fits_41 fl s v0 v2 v3 v4 v5 q7 q9)
  else
  if v3 ≤ q9 then (
    B_X8_fits_53 fl s v0 v4 v5)
  else
  B_X8_fits_41 fl s v0 v2 v3 v4 v5 q7 q9
def F_X8_isAlone (fl : Nat) (v0 : Nat) (v1 : Int32) (s : Mem) : Option Int32 :=
  bd (ldA s v0 4 0) fun r1 =>
  gd (inR v1 r1.2) <|
  bd (F_X8_maskOf_ fl v0 (gI s r1.1 v1.toNatClampNeg) v1 s) fun q4 =>
  bd (ldA s v0 5 0) fun r6 =>
  gd (inR v1 r6.2) <|
  bd (ldA s v0 6 0) fun r9 =>
  gd (inR v1 r9.2) <|
  bd (F_X8_mask fl (gI s r6.1 v1.toNatClampNeg) (gI s r9.1 v1.toNatClampNeg) s) fun q12 =>
  if (lg_cmp (q4 &&& q12) (0 : Int64)) = 0 then (
    some (1 : Int32))
  else
  some (0 : Int32)
def B_X8_hasPower_19 (fl : Nat) (s : Mem) : Nat → Nat → Int32 → Int32 → Int32 → Option Int32
  | 0 => fun _ _ _ _ => none
  | n + 1 => fun v0 v1 v2 v3 =>
    if v2 < 0 then (
      some (1 : Int32))
    else
    bd (ldA s v0 5 0) fun r2 =>
    gd (inR v1 r2.2) <|
    bd (ldA s v0 6 0) fun r5 =>
    gd (inR v1 r5.2) <|
    if ((gI s r2.1 v1.toNatClampNeg) + (gI s r5.1 v1.toNatClampNeg)) ≤ v3 then (
      some (1 : Int32))
    else
    bd (F_X8_powerAt fl v0 v2 v3 s) fun q9 =>
    bd (ldA s v0 1 0) fun r11 =>
    gd (inR ((5 : Int32) + v2) r11.2) <|
    if q9 ≤ (gI s r11.1 ((5 : Int32) + v2).toNatClampNeg) then (
      B_X8_hasPower_19 fl s n v0 v1 v2 (v3 + (1 : Int32)))
    else
    some (0 : Int32)
def F_X8_hasPower (fl : Nat) (v0 : Nat) (v1 : Int32) (s : Mem) : Option Int32 :=
  bd (ldA s v0 4 0) fun r15 =>
  gd (inR v1 r15.2) <|
  bd (F_X8_ofPitch fl v0 (gI s r15.1 v1.toNatClampNeg) (3 : Int32) s) fun q18 =>
  bd (ldA s v0 5 0) fun r20 =>
  gd (inR v1 r20.2) <|
  B_X8_hasPower_19 fl s fl v0 v1 q18 (gI s r20.1 v1.toNatClampNeg)
def F_X8_staysLong (fl : Nat) (v0 : Nat) (s : Mem) : Option Int32 :=
  bd (ldA s v0 5 0) fun r1 =>
  gd (inR (12 : Int32) r1.2) <|
  bd (ldA s v0 6 0) fun r4 =>
  gd (inR (12 : Int32) r4.2) <|
  bd (F_X8_asked fl v0 (gI s r1.1 (12 : Int32).toNatClampNeg) (gI s r4.1 (12 : Int32).toNatClampNeg) s) fun q7 =>
  bd (ldA s v0 6 0) fun r9 =>
  gd (inR (12 : Int32) r9.2) <|
  if (gI s r9.1 (12 : Int32).toNatClampNeg) < q7 then (
    bd (ldA s v0 4 0) fun r13 =>
    gd (inR (12 : Int32) r13.2) <|
    bd (F_X8_maskOf_ fl v0 (gI s r13.1 (12 : Int32).toNatClampNeg) (12 : Int32) s) fun q16 =>
    bd (ldA s v0 5 0) fun r18 =>
    gd (inR (12 : Int32) r18.2) <|
    bd (ldA s v0 5 0) fun r21 =>
    gd (inR (12 : Int32) r21.2) <|
    bd (ldA s v0 6 0) fun r24 =>
    gd (inR (12 : Int32) r24.2) <|
    bd (F_X8_isNight fl ((gI s r18.1 (12 : Int32).toNatClampNeg) - (1 : Int32)) s) fun q27 =>
    if q27 = 0 then (
      some (0 : Int32))
    else
    bd (F_X8_isNight fl ((gI s r21.1 (12 : Int32).toNatClampNeg) + (gI s r24.1 (12 : Int32).toNatClampNeg)) s) fun q30 =>
    if q30 = 0 then (
      some (0 : Int32))
    else
    if (lg_cmp ((q16 >>> (Int32.toInt64 ((gI s r18.1 (12 : Int32).toNatClampNeg) - (1 : Int32)) &&& 63)) &&& (1 : Int64)) (1 : Int64)) = 0 then (
      if (lg_cmp ((q16 >>> (Int32.toInt64 ((gI s r21.1 (12 : Int32).toNatClampNeg) + (gI s r24.1 (12 : Int32).toNatClampNeg)) &&& 63)) &&& (1 : Int64)) (1 : Int64)) = 0 then (
        some (1 : Int32))
      else
      some (0 : Int32))
    else
    some (0 : Int32))
  else
  some (1 : Int32)
def B_X8_obstacleOf_87 (fl : Nat) (v0 : Nat) (w0 : Int32) (s : Mem) : Option (Int32 × Mem) :=
  bd (ldA s v0 4 0) fun r1 =>
  gd (inR (12 : Int32) r1.2) <|
  nx (pI s r1.1 (12 : Int32).toNatClampNeg (-1 : Int32)) fun m4 =>
  some (w0, m4)
def F_X8_obstacleOf (fl : Nat) (v0 : Nat) (v1 : Int32) (v2 : Int32) (v3 : Int32) (v4 : Int32) (s : Mem) : Option (Int32 × Mem) :=
  bd (ldA s v0 7 0) fun r6 =>
  gd (inR (12 : Int32) r6.2) <|
  bd (F_X8_fits fl v0 v1 v2 v3 (gI s r6.1 (12 : Int32).toNatClampNeg) v4 s) fun q9 =>
  if q9 = 0 then (
    some ((1 : Int32), s))
  else
  bd (F_X8_gapsOfAll fl v0 s) fun q12 =>
  bd (ldA q12.2 v0 4 0) fun r14 =>
  gd (inR (12 : Int32) r14.2) <|
  nx (pI q12.2 r14.1 (12 : Int32).toNatClampNeg v4) fun m17 =>
  bd (F_X8_isAlone fl v0 (12 : Int32) m17) fun q19 =>
  if q19 = 0 then (
    B_X8_obstacleOf_87 fl v0 (2 : Int32) m17)
  else
  bd (F_X8_hasPower fl v0 (12 : Int32) m17) fun q22 =>
  if q22 = 0 then (
    B_X8_obstacleOf_87 fl v0 (3 : Int32) m17)
  else
  bd (F_X8_staysLong fl v0 m17) fun q25 =>
  if q25 = 0 then (
    B_X8_obstacleOf_87 fl v0 (4 : Int32) m17)
  else
  bd (F_X8_gapsOfAll fl v0 m17) fun q28 =>
  if q28.1 ≤ q12.1 then (
    B_X8_obstacleOf_87 fl v0 (0 : Int32) q28.2)
  else
  B_X8_obstacleOf_87 fl v0 (5 : Int32) q28.2
def B_X8_isRight_62 (fl : Nat) : Nat → Nat → Int32 → Mem → Option (Int32 × Mem)
  | 0 => fun _ _ _ => none
  | n + 1 => fun v0 v1 s =>
    if (gI s v0 11) ≤ v1 then (
      bd (F_X8_gapsOfAll fl v0 s) fun q2 =>
      if (gI q2.2 v0 10) < q2.1 then (
        some ((0 : Int32), q2.2))
      else
      some ((1 : Int32), q2.2))
    else
    bd (ldA s v0 12 0) fun r5 =>
    gd (inR v1 r5.2) <|
    bd (F_X8_hasPower fl v0 (gI s r5.1 v1.toNatClampNeg) s) fun q8 =>
    if q8 = 0 then (
      some ((0 : Int32), s))
    else
    B_X8_isRight_62 fl n v0 (v1 + (1 : Int32)) s
def B_X8_isRight_13 (fl : Nat) : Nat → Nat → Int32 → Mem → Option (Int32 × Mem)
  | 0 => fun _ _ _ => none
  | n + 1 => fun v0 v1 s =>
    if (gI s v0 11) ≤ v1 then (
      bd (F_X8_hasPower fl v0 (12 : Int32) s) fun q12 =>
      if q12 = 0 then (
        some ((0 : Int32), s))
      else
      bd (F_X8_staysLong fl v0 s) fun q15 =>
      if q15 = 0 then (
        some ((0 : Int32), s))
      else
      B_X8_isRight_62 fl fl v0 (0 : Int32) s)
    else
    bd (ldA s v0 12 0) fun r18 =>
    gd (inR v1 r18.2) <|
    bd (F_X8_isAlone fl v0 (gI s r18.1 v1.toNatClampNeg) s) fun q21 =>
    if q21 = 0 then (
      some ((0 : Int32), s))
    else
    B_X8_isRight_13 fl n v0 (v1 + (1 : Int32)) s
def F_X8_isRight (fl : Nat) (v0 : Nat) (s : Mem) : Option (Int32 × Mem) :=
  bd (F_X8_isAlone fl v0 (12 : Int32) s) fun q24 =>
  if q24 = 0 then (
    some ((0 : Int32), s))
  else
  B_X8_isRight_13 fl fl v0 (0 : Int32) s
def F_X8_canMove (fl : Nat) (v0 : Nat) (v1 : Int32) (s : Mem) : Option Int32 :=
  bd (ldA s v0 4 0) fun r1 =>
  gd (inR v1 r1.2) <|
  if (gI s r1.1 v1.toNatClampNeg) < 0 then (
    some (0 : Int32))
  else
  bd (F_X8_of fl v0 v1 (4 : Int32) s) fun q5 =>
  bd (ldA s v0 1 0) fun r7 =>
  gd (inR (3 : Int32) r7.2) <|
  if q5 < (gI s r7.1 (3 : Int32).toNatClampNeg) then (
    some (0 : Int32))
  else
  some (1 : Int32)
def B_X8_plans_164 (self : Nat → Int32 → Int32 → Mem → Option (Int32 × Mem)) (k11 : Nat → Int32 → Int32 → Mem → Option (Int32 × Mem)) (fl : Nat) (v0 : Nat) (v2 : Int32) (v3 : Int32) (s : Mem) : Option (Int32 × Mem) :=
  k11 v0 v2 (v3 + (1 : Int32)) s
def B_X8_plans_150 (self : Nat → Int32 → Int32 → Mem → Option (Int32 × Mem)) (k11 : Nat → Int32 → Int32 → Mem → Option (Int32 × Mem)) (k43 : Nat → Int32 → Int32 → Int32 → Int32 → Mem → Option (Int32 × Mem)) (fl : Nat) (v0 : Nat) (v2 : Int32) (v3 : Int32) (v4 : Int32) (v5 : Int32) (s : Mem) : Option (Int32 × Mem) :=
  k43 v0 v2 v3 v4 (v5 + (1 : Int32)) s
def B_X8_plans_43 (self : Nat → Int32 → Int32 → Mem → Option (Int32 × Mem)) (k11 : Nat → Int32 → Int32 → Mem → Option (Int32 × Mem)) (fl : Nat) : Nat → Nat → Int32 → Int32 → Int32 → Int32 → Mem → Option (Int32 × Mem)
  | 0 => fun _ _ _ _ _ _ => none
  | n + 1 => fun v0 v2 v3 v4 v5 s =>
    bd (ldA s v0 1 0) fun r1 =>
    gd (inR (0 : Int32) r1.2) <|
    if (gI s r1.1 (0 : Int32).toNatClampNeg) ≤ v5 then (
      bd (ldA s v0 4 0) fun r5 =>
      gd (inR v3 r5.2) <|
      nx (pI s r5.1 v3.toNatClampNeg v4) fun m8 =>
      B_X8_plans_164 self k11 fl v0 v2 v3 m8)
    else
    if v5 = v4 then (
      B_X8_plans_150 self k11 (B_X8_plans_43 self k11 fl n) fl v0 v2 v3 v4 v5 s)
    else
    bd (F_X8_of fl v0 v3 (0 : Int32) s) fun q11 =>
    bd (F_X8_of fl v0 v3 (1 : Int32) s) fun q13 =>
    bd (F_X8_of fl v0 v3 (2 : Int32) s) fun q15 =>
    bd (F_X8_of fl v0 v3 (3 : Int32) s) fun q17 =>
    bd (F_X8_fits fl v0 q11 q13 q15 q17 v5 s) fun q19 =>
    if q19 = 0 then (
      B_X8_plans_150 self k11 (B_X8_plans_43 self k11 fl n) fl v0 v2 v3 v4 v5 s)
    else
    bd (ldA s v0 4 0) fun r22 =>
    gd (inR v3 r22.2) <|
    nx (pI s r22.1 v3.toNatClampNeg v5) fun m25 =>
    bd (ldA m25 v0 12 0) fun r27 =>
    gd (inR (gI m25 v0 11) r27.2) <|
    nx (pI m25 r27.1 (gI m25 v0 11).toNatClampNeg v3) fun m30 =>
    nx (pI m30 v0 11 ((gI m30 v0 11) + (1 : Int32))) fun m32 =>
    bd (self v0 (v3 + (1 : Int32)) (v2 - (1 : Int32)) m32) fun q34 =>
    if q34.1 = 0 then (
      nx (pI q34.2 v0 11 ((gI q34.2 v0 11) - (1 : Int32))) fun m37 =>
      B_X8_plans_150 self k11 (B_X8_plans_43 self k11 fl n) fl v0 v2 v3 v4 v5 m37)
    else
    some ((1 : Int32), q34.2)
def B_X8_plans_11 (self : Nat → Int32 → Int32 → Mem → Option (Int32 × Mem)) (fl : Nat) : Nat → Nat → Int32 → Int32 → Mem → Option (Int32 × Mem)
  | 0 => fun _ _ _ _ => none
  | n + 1 => fun v0 v2 v3 s =>
    bd (ldA s v0 1 0) fun r39 =>
    gd (inR (1 : Int32) r39.2) <|
    if (gI s r39.1 (1 : Int32).toNatClampNeg) ≤ v3 then (
      some ((0 : Int32), s))
    else
    bd (F_X8_canMove fl v0 v3 s) fun q43 =>
    if q43 = 0 then (
      B_X8_plans_164 self (B_X8_plans_11 self fl n) fl v0 v2 v3 s)
    else
    bd (ldA s v0 4 0) fun r46 =>
    gd (inR v3 r46.2) <|
    B_X8_plans_43 self (B_X8_plans_11 self fl n) fl fl v0 v2 v3 (gI s r46.1 v3.toNatClampNeg) (0 : Int32) s
def G_X8_plans (self : Nat → Int32 → Int32 → Mem → Option (Int32 × Mem)) (fl : Nat) (v0 : Nat) (v1 : Int32) (v2 : Int32) (s : Mem) : Option (Int32 × Mem) :=
  if v2 = 0 then (
    bd (F_X8_isRight fl v0 s) fun q50 =>
    gd (q50.1 = 0 ∨ q50.1 = 1) <|
    some (q50.1, q50.2))
  else
  B_X8_plans_11 self fl fl v0 v2 v1 s
def F_X8_plans (fl : Nat) : Nat → Nat → Int32 → Int32 → Mem → Option (Int32 × Mem)
  | 0 => fun _ _ _ _ => none
  | d + 1 => fun v0 v1 v2 s => G_X8_plans (F_X8_plans fl d) fl v0 v1 v2 s
def B_X8_fitting_129 (k6 : Nat → Int32 → Int32 → Int32 → Int32 → Int32 → Mem → Option (Int32 × Mem)) (fl : Nat) (v0 : Nat) (v1 : Int32) (v2 : Int32) (v3 : Int32) (v4 : Int32) (v5 : Int32) (s : Mem) : Option (Int32 × Mem) :=
  k6 v0 v1 v2 v3 v4 (v5 + (1 : Int32)) s
def B_X8_fitting_117 (k6 : Nat → Int32 → Int32 → Int32 → Int32 → Int32 → Mem → Option (Int32 × Mem)) (fl : Nat) (v0 : Nat) (v1 : Int32) (v2 : Int32) (v3 : Int32) (v4 : Int32) (v5 : Int32) (v6 : Int32) (s : Mem) : Option (Int32 × Mem) :=
  bd (ldA s v0 13 0) fun r1 =>
  gd (inR v6 r1.2) <|
  nx (pI s r1.1 v6.toNatClampNeg v5) fun m4 =>
  B_X8_fitting_129 k6 fl v0 v1 v2 v3 (v4 + (1 : Int32)) v5 m4
def B_X8_fitting_43 (k6 : Nat → Int32 → Int32 → Int32 → Int32 → Int32 → Mem → Option (Int32 × Mem)) (fl : Nat) : Nat → Nat → Int32 → Int32 → Int32 → Int32 → Int32 → Int32 → Mem → Option (Int32 × Mem)
  | 0 => fun _ _ _ _ _ _ _ _ => none
  | n + 1 => fun v0 v1 v2 v3 v4 v5 v6 s =>
    if v6 ≤ 0 then (
      B_X8_fitting_117 k6 fl v0 v1 v2 v3 v4 v5 v6 s)
    else
    bd (ldA s v0 13 0) fun r7 =>
    gd (inR (v6 - (1 : Int32)) r7.2) <|
    bd (F_X8_ofPitch fl v0 (gI s r7.1 (v6 - (1 : Int32)).toNatClampNeg) (1 : Int32) s) fun q10 =>
    bd (ldA s v0 13 0) fun r12 =>
    gd (inR (v6 - (1 : Int32)) r12.2) <|
    bd (F_X8_ofPitch fl v0 (gI s r12.1 (v6 - (1 : Int32)).toNatClampNeg) (2 : Int32) s) fun q15 =>
    bd (F_X8_ofPitch fl v0 v5 (1 : Int32) s) fun q17 =>
    bd (F_X8_ofPitch fl v0 v5 (2 : Int32) s) fun q19 =>
    if (q10 * q15) ≤ (q17 * q19) then (
      B_X8_fitting_117 k6 fl v0 v1 v2 v3 v4 v5 v6 s)
    else
    bd (ldA s v0 13 0) fun r22 =>
    bd (ldA s v0 13 0) fun r24 =>
    gd (inR (v6 - (1 : Int32)) r24.2) <|
    gd (inR v6 r22.2) <|
    nx (pI s r22.1 v6.toNatClampNeg (gI s r24.1 (v6 - (1 : Int32)).toNatClampNeg)) fun m28 =>
    B_X8_fitting_43 k6 fl n v0 v1 v2 v3 v4 v5 (v6 + (-1 : Int32)) m28
def B_X8_fitting_6 (fl : Nat) : Nat → Nat → Int32 → Int32 → Int32 → Int32 → Int32 → Mem → Option (Int32 × Mem)
  | 0 => fun _ _ _ _ _ _ _ => none
  | n + 1 => fun v0 v1 v2 v3 v4 v5 s =>
    bd (ldA s v0 1 0) fun r30 =>
    gd (inR (0 : Int32) r30.2) <|
    if (gI s r30.1 (0 : Int32).toNatClampNeg) ≤ v5 then (
      some (v4, s))
    else
    bd (ldA s v0 7 0) fun r34 =>
    gd (inR (12 : Int32) r34.2) <|
    bd (F_X8_fits fl v0 v1 v2 v3 (gI s r34.1 (12 : Int32).toNatClampNeg) v5 s) fun q37 =>
    if q37 = 0 then (
      B_X8_fitting_129 (B_X8_fitting_6 fl n) fl v0 v1 v2 v3 v4 v5 s)
    else
    B_X8_fitting_43 (B_X8_fitting_6 fl n) fl fl v0 v1 v2 v3 v4 v5 v4 s
def F_X8_fitting (fl : Nat) (v0 : Nat) (v1 : Int32) (v2 : Int32) (v3 : Int32) (s : Mem) : Option (Int32 × Mem) :=
  B_X8_fitting_6 fl fl v0 v1 v2 v3 (0 : Int32) (0 : Int32) s
def B_X8_finds_29 (k20 : Nat → Int32 → Int32 → Mem → Option (Int32 × Mem)) (fl : Nat) : Nat → Nat → Int32 → Int32 → Int32 → Mem → Option (Int32 × Mem)
  | 0 => fun _ _ _ _ _ => none
  | n + 1 => fun v0 v4 v5 v6 s =>
    if v4 ≤ v6 then (
      k20 v0 v4 (v5 + (1 : Int32)) s)
    else
    bd (ldA s v0 4 0) fun r2 =>
    bd (ldA s v0 13 0) fun r4 =>
    gd (inR v6 r4.2) <|
    gd (inR (12 : Int32) r2.2) <|
    nx (pI s r2.1 (12 : Int32).toNatClampNeg (gI s r4.1 v6.toNatClampNeg)) fun m8 =>
    nx (pI m8 v0 11 (0 : Int32)) fun m10 =>
    bd (F_X8_plans fl 4 v0 (0 : Int32) v5 m10) fun q12 =>
    if q12.1 = 0 then (
      B_X8_finds_29 k20 fl n v0 v4 v5 (v6 + (1 : Int32)) q12.2)
    else
    some ((1 : Int32), q12.2)
def B_X8_finds_20 (fl : Nat) : Nat → Nat → Int32 → Int32 → Mem → Option (Int32 × Mem)
  | 0 => fun _ _ _ _ => none
  | n + 1 => fun v0 v4 v5 s =>
    if (3 : Int32) ≤ v5 then (
      bd (ldA s v0 4 0) fun r16 =>
      gd (inR (12 : Int32) r16.2) <|
      nx (pI s r16.1 (12 : Int32).toNatClampNeg (-1 : Int32)) fun m19 =>
      some ((0 : Int32), m19))
    else
    B_X8_finds_29 (B_X8_finds_20 fl n) fl fl v0 v4 v5 (0 : Int32) s
def F_X8_finds (fl : Nat) (v0 : Nat) (v1 : Int32) (v2 : Int32) (v3 : Int32) (s : Mem) : Option (Int32 × Mem) :=
  bd (F_X8_gapsOfAll fl v0 s) fun q21 =>
  nx (pI q21.2 v0 10 q21.1) fun m23 =>
  bd (F_X8_fitting fl v0 v1 v2 v3 m23) fun q25 =>
  B_X8_finds_20 fl fl v0 q25.1 (0 : Int32) q25.2
def B_X8_book_248 (fl : Nat) : Nat → Nat → Int32 → Int32 → Int32 → Int32 → Int32 → Int32 → Int32 → Mem → Option (Int32 × Mem)
  | 0 => fun _ _ _ _ _ _ _ _ _ => none
  | n + 1 => fun v0 v1 v2 v3 v4 v5 v6 v8 s =>
    if (gI s v0 11) ≤ v8 then (
      bd (ldA s v0 1 0) fun r2 =>
      gd (inR (1 : Int32) r2.2) <|
      bd (ldA s v0 1 0) fun r5 =>
      gd (inR (1 : Int32) r5.2) <|
      gd (inR (1 : Int32) r5.2) <|
      nx (pI s r5.1 (1 : Int32).toNatClampNeg ((gI s r5.1 (1 : Int32).toNatClampNeg) + (1 : Int32))) fun m9 =>
      bd (F_X8_lays fl v0 (gI s r2.1 (1 : Int32).toNatClampNeg) (0 : Int32) v1 m9) fun q11 =>
      bd (F_X8_lays fl v0 (gI s r2.1 (1 : Int32).toNatClampNeg) (1 : Int32) v2 q11) fun q13 =>
      bd (F_X8_lays fl v0 (gI s r2.1 (1 : Int32).toNatClampNeg) (2 : Int32) v3 q13) fun q15 =>
      bd (F_X8_lays fl v0 (gI s r2.1 (1 : Int32).toNatClampNeg) (3 : Int32) v4 q15) fun q17 =>
      bd (F_X8_lays fl v0 (gI s r2.1 (1 : Int32).toNatClampNeg) (4 : Int32) v5 q17) fun q19 =>
      bd (F_X8_lays fl v0 (gI s r2.1 (1 : Int32).toNatClampNeg) (5 : Int32) v6 q19) fun q21 =>
      bd (ldA q21 v0 4 0) fun r23 =>
      gd (inR (12 : Int32) r23.2) <|
      bd (F_X8_lays fl v0 (gI s r2.1 (1 : Int32).toNatClampNeg) (6 : Int32) (gI q21 r23.1 (12 : Int32).toNatClampNeg) q21) fun q26 =>
      bd (ldA q26 v0 4 0) fun r28 =>
      gd (inR (12 : Int32) r28.2) <|
      bd (F_X8_ofPitch fl v0 (gI q26 r28.1 (12 : Int32).toNatClampNeg) (4 : Int32) q26) fun q31 =>
      bd (F_X8_lays fl v0 (gI s r2.1 (1 : Int32).toNatClampNeg) (7 : Int32) ((q31 + v4) * v6) q26) fun q33 =>
      bd (F_X8_lays fl v0 (gI s r2.1 (1 : Int32).toNatClampNeg) (8 : Int32) (1 : Int32) q33) fun q35 =>
      bd (F_X8_lays fl v0 (gI s r2.1 (1 : Int32).toNatClampNeg) (9 : Int32) (0 : Int32) q35) fun q37 =>
      some ((gI s r2.1 (1 : Int32).toNatClampNeg), q37))
    else
    bd (ldA s v0 12 0) fun r39 =>
    gd (inR v8 r39.2) <|
    bd (ldA s v0 16 0) fun r42 =>
    gd (inR ((3 : Int32) * v8) r42.2) <|
    nx (pI s r42.1 ((3 : Int32) * v8).toNatClampNeg (gI s r39.1 v8.toNatClampNeg)) fun m45 =>
    bd (ldA m45 v0 16 0) fun r47 =>
    bd (F_X8_of fl v0 (gI s r39.1 v8.toNatClampNeg) (6 : Int32) m45) fun q49 =>
    gd (inR (((3 : Int32) * v8) + (1 : Int32)) r47.2) <|
    nx (pI m45 r47.1 (((3 : Int32) * v8) + (1 : Int32)).toNatClampNeg q49) fun m52 =>
    bd (ldA m52 v0 16 0) fun r54 =>
    bd (ldA m52 v0 4 0) fun r56 =>
    gd (inR (gI s r39.1 v8.toNatClampNeg) r56.2) <|
    gd (inR (((3 : Int32) * v8) + (2 : Int32)) r54.2) <|
    nx (pI m52 r54.1 (((3 : Int32) * v8) + (2 : Int32)).toNatClampNeg (gI m52 r56.1 (gI s r39.1 v8.toNatClampNeg).toNatClampNeg)) fun m60 =>
    bd (ldA m60 v0 4 0) fun r62 =>
    gd (inR (gI s r39.1 v8.toNatClampNeg) r62.2) <|
    bd (F_X8_lays fl v0 (gI s r39.1 v8.toNatClampNeg) (6 : Int32) (gI m60 r62.1 (gI s r39.1 v8.toNatClampNeg).toNatClampNeg) m60) fun q65 =>
    B_X8_book_248 fl n v0 v1 v2 v3 v4 v5 v6 (v8 + (1 : Int32)) q65
def B_X8_book_222 (k181 : Nat → Int32 → Int32 → Int32 → Int32 → Mem → Option (Int32 × Mem)) (fl : Nat) (v0 : Nat) (v1 : Int32) (v2 : Int32) (v3 : Int32) (v8 : Int32) (w0 : Nat) (w1 : Int32) (s : Mem) : Option (Int32 × Mem) :=
  nx (pI s w0 14 w1) fun m67 =>
  k181 v0 v1 v2 v3 (v8 + (1 : Int32)) m67
def B_X8_book_181 (fl : Nat) : Nat → Nat → Int32 → Int32 → Int32 → Int32 → Mem → Option (Int32 × Mem)
  | 0 => fun _ _ _ _ _ _ => none
  | n + 1 => fun v0 v1 v2 v3 v8 s =>
    bd (ldA s v0 1 0) fun r69 =>
    gd (inR (0 : Int32) r69.2) <|
    if (gI s r69.1 (0 : Int32).toNatClampNeg) ≤ v8 then (
      some ((0 : Int32), s))
    else
    bd (F_X8_obstacleOf fl v0 v1 v2 v3 v8 s) fun q73 =>
    if q73.1 ≤ (gI q73.2 v0 14) then (
      B_X8_book_222 (B_X8_book_181 fl n) fl v0 v1 v2 v3 v8 v0 (gI q73.2 v0 14) q73.2)
    else
    B_X8_book_222 (B_X8_book_181 fl n) fl v0 v1 v2 v3 v8 v0 q73.1 q73.2
def B_X8_book_116 (fl : Nat) (v0 : Nat) (v1 : Int32) (v2 : Int32) (v3 : Int32) (v4 : Int32) (v5 : Int32) (v6 : Int32) (w0 : Nat) (w1 : Int32) (s : Mem) : Option (Int32 × Mem) :=
  nx (pI s w0 0 w1) fun m76 =>
  if (gI m76 v0 0) = 0 then (
    bd (F_X8_loads fl v0 (-1 : Int32) m76) fun q79 =>
    bd (F_X8_comes fl v0 v4 v5 v6 q79) fun q81 =>
    bd (F_X8_finds fl v0 v1 v2 v3 q81) fun q83 =>
    if q83.1 = 0 then (
      nx (pI q83.2 v0 0 (3 : Int32)) fun m90 =>
      bd (F_X8_loads fl v0 (-1 : Int32) m90) fun q92 =>
      bd (F_X8_comes fl v0 v4 v5 v6 q92) fun q94 =>
      nx (pI q94 v0 14 (1 : Int32)) fun m96 =>
      B_X8_book_181 fl fl v0 v1 v2 v3 (0 : Int32) m96)
    else
    bd (F_X8_keeps fl v0 q83.2) fun q86 =>
    nx (pI q86 v0 15 (gI q86 v0 11)) fun m88 =>
    B_X8_book_248 fl fl v0 v1 v2 v3 v4 v5 v6 (0 : Int32) m88)
  else
  some ((0 : Int32), m76)
def B_X8_book_88 (fl : Nat) (v0 : Nat) (v1 : Int32) (v2 : Int32) (v3 : Int32) (v4 : Int32) (v5 : Int32) (v6 : Int32) (w0 : Int32) (s : Mem) : Option (Int32 × Mem) :=
  if w0 = 0 then (
    B_X8_book_116 fl v0 v1 v2 v3 v4 v5 v6 v0 (1 : Int32) s)
  else
  bd (ldA s v0 1 0) fun r99 =>
  gd (inR (1 : Int32) r99.2) <|
  if (gI s r99.1 (1 : Int32).toNatClampNeg) = (12 : Int32) then (
    B_X8_book_116 fl v0 v1 v2 v3 v4 v5 v6 v0 (2 : Int32) s)
  else
  B_X8_book_116 fl v0 v1 v2 v3 v4 v5 v6 v0 (0 : Int32) s
def B_X8_book_87 (fl : Nat) (v0 : Nat) (v1 : Int32) (v2 : Int32) (v3 : Int32) (v4 : Int32) (v5 : Int32) (v6 : Int32) (s : Mem) : Option (Int32 × Mem) :=
  B_X8_book_88 fl v0 v1 v2 v3 v4 v5 v6 (0 : Int32) s
def F_X8_book (fl : Nat) (v0 : Nat) (v1 : Int32) (v2 : Int32) (v3 : Int32) (v4 : Int32) (v5 : Int32) (v6 : Int32) (s : Mem) : Option (Int32 × Mem) :=
  bd (F_X8_in fl v1 (0 : Int32) (2 : Int32) s) fun q103 =>
  if q103 = 0 then (
    B_X8_book_87 fl v0 v1 v2 v3 v4 v5 v6 s)
  else
  bd (F_X8_in fl v2 (1 : Int32) (12 : Int32) s) fun q106 =>
  if q106 = 0 then (
    B_X8_book_87 fl v0 v1 v2 v3 v4 v5 v6 s)
  else
  bd (F_X8_in fl v3 (1 : Int32) (12 : Int32) s) fun q109 =>
  if q109 = 0 then (
    B_X8_book_87 fl v0 v1 v2 v3 v4 v5 v6 s)
  else
  bd (F_X8_in fl v4 (0 : Int32) (16 : Int32) s) fun q112 =>
  if q112 = 0 then (
    B_X8_book_87 fl v0 v1 v2 v3 v4 v5 v6 s)
  else
  bd (F_X8_isNight fl v5 s) fun q115 =>
  if q115 = 0 then (
    B_X8_book_87 fl v0 v1 v2 v3 v4 v5 v6 s)
  else
  bd (ldA s v0 1 0) fun r118 =>
  gd (inR (3 : Int32) r118.2) <|
  if v5 < (gI s r118.1 (3 : Int32).toNatClampNeg) then (
    B_X8_book_87 fl v0 v1 v2 v3 v4 v5 v6 s)
  else
  bd (F_X8_in fl v6 (1 : Int32) (14 : Int32) s) fun q122 =>
  if q122 = 0 then (
    B_X8_book_87 fl v0 v1 v2 v3 v4 v5 v6 s)
  else
  bd (F_X8_isNight fl ((v5 + v6) - (1 : Int32)) s) fun q125 =>
  if q125 = 0 then (
    B_X8_book_87 fl v0 v1 v2 v3 v4 v5 v6 s)
  else
  B_X8_book_88 fl v0 v1 v2 v3 v4 v5 v6 (1 : Int32) s
def B_X8_append_15 (fl : Nat) (v0 : Nat) (v1 : Int32) (w0 : Nat) (w1 : Int32) (s : Mem) : Option Mem :=
  nx (pI s w0 0 w1) fun m1 =>
  if (gI m1 v0 0) = 0 then (
    bd (ldA m1 v0 17 2) fun r4 =>
    gd (inR (gI m1 v0 18) r4.2) <|
    nx (pI m1 r4.1 (gI m1 v0 18).toNatClampNeg (vp_nar .char v1)) fun m7 =>
    nx (pI m7 v0 18 ((gI m7 v0 18) + (1 : Int32))) fun m9 =>
    some m9)
  else
  some m1
def F_X8_append (fl : Nat) (v0 : Nat) (v1 : Int32) (s : Mem) : Option Mem :=
  if (gI s v0 18) = (30 : Int32) then (
    B_X8_append_15 fl v0 v1 v0 (1 : Int32) s)
  else
  B_X8_append_15 fl v0 v1 v0 (0 : Int32) s
def F_X8_here (fl : Nat) (v0 : Nat) (s : Mem) : Option Int32 :=
  if (gI s v0 18) ≤ (gI s v0 19) then (
    gd (vp_nar .char (0 : Int32) = (0 : Int32)) <|
    some (0 : Int32))
  else
  bd (ldA s v0 17 2) fun r3 =>
  gd (inR (gI s v0 19) r3.2) <|
  gd (vp_nar .char (gI s r3.1 (gI s v0 19).toNatClampNeg) = (gI s r3.1 (gI s v0 19).toNatClampNeg)) <|
  some (gI s r3.1 (gI s v0 19).toNatClampNeg)
def F_X8_isDigit (fl : Nat) (v0 : Nat) (s : Mem) : Option Int32 :=
  if (gI s v0 18) ≤ (gI s v0 19) then (
    some (0 : Int32))
  else
  bd (F_X8_here fl v0 s) fun q2 =>
  bd (F_X8_in fl q2 (48 : Int32) (57 : Int32) s) fun q4 =>
  if q4 = 0 then (
    some (0 : Int32))
  else
  some (1 : Int32)
def F_X8_wants (fl : Nat) (v0 : Nat) (v1 : Int32) (s : Mem) : Option Mem :=
  if (gI s v0 20) < 0 then (
    if (gI s v0 19) = (gI s v0 18) then (
      nx (pI s v0 20 (gI s v0 19)) fun m3 =>
      some m3)
    else
    bd (F_X8_here fl v0 s) fun q5 =>
    if q5 = v1 then (
      nx (pI s v0 19 ((gI s v0 19) + (1 : Int32))) fun m8 =>
      some m8)
    else
    nx (pI s v0 20 (gI s v0 19)) fun m10 =>
    some m10)
  else
  some s
def B_X8_number_22 (fl : Nat) (v0 : Nat) (s : Mem) : Option (Int32 × Mem) :=
  if (gI s v0 20) < 0 then (
    bd (F_X8_here fl v0 s) fun q2 =>
    nx (pI s v0 19 ((gI s v0 19) + (1 : Int32))) fun m4 =>
    if (q2 - (48 : Int32)) = 0 then (
      some ((q2 - (48 : Int32)), m4))
    else
    bd (F_X8_isDigit fl v0 m4) fun q7 =>
    if q7 = 0 then (
      some ((q2 - (48 : Int32)), m4))
    else
    bd (F_X8_here fl v0 m4) fun q10 =>
    nx (pI m4 v0 19 ((gI m4 v0 19) + (1 : Int32))) fun m12 =>
    some (((((10 : Int32) * (q2 - (48 : Int32))) + q10) - (48 : Int32)), m12))
  else
  some ((0 : Int32), s)
def F_X8_number (fl : Nat) (v0 : Nat) (s : Mem) : Option (Int32 × Mem) :=
  if 0 ≤ (gI s v0 20) then (
    B_X8_number_22 fl v0 s)
  else
  bd (F_X8_isDigit fl v0 s) fun q15 =>
  if q15 = 0 then (
    nx (pI s v0 20 (gI s v0 19)) fun m18 =>
    B_X8_number_22 fl v0 m18)
  else
  B_X8_number_22 fl v0 s
def B_X8_readBooking_190 (fl : Nat) (v0 : Nat) (v2 : Int32) (v3 : Int32) (v4 : Int32) (v5 : Int32) (v6 : Int32) (v7 : Int32) (s : Mem) : Option (Int32 × Mem) :=
  nx (pI s v0 18 (0 : Int32)) fun m1 =>
  nx (pI m1 v0 21 (gI m1 v0 20)) fun m3 =>
  if (gI m3 v0 20) < 0 then (
    bd (F_X8_book fl v0 v2 v3 v4 v7 v5 v6 m3) fun q6 =>
    some (q6.1, q6.2))
  else
  nx (pI m3 v0 0 (1 : Int32)) fun m8 =>
  some ((0 : Int32), m8)
def B_X8_readBooking_164 (fl : Nat) (v0 : Nat) (v2 : Int32) (v3 : Int32) (v4 : Int32) (v5 : Int32) (v6 : Int32) (v7 : Int32) (s : Mem) : Option (Int32 × Mem) :=
  if 0 ≤ (gI s v0 20) then (
    B_X8_readBooking_190 fl v0 v2 v3 v4 v5 v6 v7 s)
  else
  if (gI s v0 18) ≤ (gI s v0 19) then (
    B_X8_readBooking_190 fl v0 v2 v3 v4 v5 v6 v7 s)
  else
  nx (pI s v0 20 (gI s v0 19)) fun m12 =>
  B_X8_readBooking_190 fl v0 v2 v3 v4 v5 v6 v7 m12
def B_X8_readBooking_67 (fl : Nat) (v0 : Nat) (v2 : Int32) (s : Mem) : Option (Int32 × Mem) :=
  nx (pI s v0 19 ((gI s v0 19) + (1 : Int32))) fun m14 =>
  bd (F_X8_number fl v0 m14) fun q16 =>
  bd (F_X8_wants fl v0 (120 : Int32) q16.2) fun q18 =>
  bd (F_X8_number fl v0 q18) fun q20 =>
  bd (F_X8_wants fl v0 (64 : Int32) q20.2) fun q22 =>
  bd (F_X8_number fl v0 q22) fun q24 =>
  bd (F_X8_wants fl v0 (43 : Int32) q24.2) fun q26 =>
  bd (F_X8_number fl v0 q26) fun q28 =>
  if 0 ≤ (gI q28.2 v0 20) then (
    B_X8_readBooking_164 fl v0 v2 q16.1 q20.1 q24.1 q28.1 (0 : Int32) q28.2)
  else
  if (gI q28.2 v0 18) ≤ (gI q28.2 v0 19) then (
    B_X8_readBooking_164 fl v0 v2 q16.1 q20.1 q24.1 q28.1 (0 : Int32) q28.2)
  else
  bd (F_X8_here fl v0 q28.2) fun q32 =>
  if q32 = (112 : Int32) then (
    nx (pI q28.2 v0 19 ((gI q28.2 v0 19) + (1 : Int32))) fun m35 =>
    bd (F_X8_number fl v0 m35) fun q37 =>
    B_X8_readBooking_164 fl v0 v2 q16.1 q20.1 q24.1 q28.1 q37.1 q37.2)
  else
  B_X8_readBooking_164 fl v0 v2 q16.1 q20.1 q24.1 q28.1 (0 : Int32) q28.2
def B_X8_readBooking_57 (fl : Nat) (v0 : Nat) (w0 : Int32) (s : Mem) : Option (Int32 × Mem) :=
  if 0 ≤ w0 then (
    B_X8_readBooking_67 fl v0 w0 s)
  else
  nx (pI s v0 20 (0 : Int32)) fun m40 =>
  B_X8_readBooking_67 fl v0 w0 m40
def F_X8_readBooking (fl : Nat) (v0 : Nat) (s : Mem) : Option (Int32 × Mem) :=
  nx (pI s v0 19 (0 : Int32)) fun m42 =>
  nx (pI m42 v0 20 (-1 : Int32)) fun m44 =>
  bd (F_X8_here fl v0 m44) fun q46 =>
  if (gI m44 v0 18) = 0 then (
    B_X8_readBooking_57 fl v0 (-1 : Int32) m44)
  else
  if q46 = (116 : Int32) then (
    B_X8_readBooking_57 fl v0 (0 : Int32) m44)
  else
  if q46 = (99 : Int32) then (
    B_X8_readBooking_57 fl v0 (1 : Int32) m44)
  else
  if q46 = (109 : Int32) then (
    B_X8_readBooking_57 fl v0 (2 : Int32) m44)
  else
  B_X8_readBooking_57 fl v0 (-1 : Int32) m44
def F_X8_faultPosition (fl : Nat) (v0 : Nat) (s : Mem) : Option (Int32 × Mem) :=
  nx (pI s v0 0 (0 : Int32)) fun m1 =>
  some ((gI m1 v0 21), m1)
def F_X8_refusal (fl : Nat) (v0 : Nat) (s : Mem) : Option (Int32 × Mem) :=
  if (gI s v0 14) = 0 then (
    nx (pI s v0 0 (1 : Int32)) fun m4 =>
    some ((gI m4 v0 14), m4))
  else
  nx (pI s v0 0 (0 : Int32)) fun m2 =>
  some ((gI m2 v0 14), m2)
def B_X8_party_28 (fl : Nat) (v0 : Nat) (v1 : Int32) (v2 : Int32) (w0 : Nat) (w1 : Int32) (s : Mem) : Option (Int32 × Mem) :=
  nx (pI s w0 0 w1) fun m1 =>
  if (gI m1 v0 0) = 0 then (
    bd (F_X8_of fl v0 v1 v2 m1) fun q4 =>
    some (q4, m1))
  else
  some ((0 : Int32), m1)
def F_X8_party (fl : Nat) (v0 : Nat) (v1 : Int32) (v2 : Int32) (s : Mem) : Option (Int32 × Mem) :=
  bd (F_X8_isParty fl v0 v1 s) fun q6 =>
  if q6 = 0 then (
    B_X8_party_28 fl v0 v1 v2 v0 (1 : Int32) s)
  else
  bd (F_X8_in fl v2 (0 : Int32) (9 : Int32) s) fun q9 =>
  if q9 = 0 then (
    B_X8_party_28 fl v0 v1 v2 v0 (2 : Int32) s)
  else
  B_X8_party_28 fl v0 v1 v2 v0 (0 : Int32) s
def F_X8_moves (fl : Nat) (v0 : Nat) (s : Mem) : Option (Int32 × Mem) :=
  nx (pI s v0 0 (0 : Int32)) fun m1 =>
  some ((gI m1 v0 15), m1)
def B_X8_moveOf_33 (fl : Nat) (v0 : Nat) (v1 : Int32) (v2 : Int32) (w0 : Nat) (w1 : Int32) (s : Mem) : Option (Int32 × Mem) :=
  nx (pI s w0 0 w1) fun m1 =>
  if (gI m1 v0 0) = 0 then (
    bd (ldA m1 v0 16 0) fun r4 =>
    gd (inR (((3 : Int32) * v1) + v2) r4.2) <|
    some ((gI m1 r4.1 (((3 : Int32) * v1) + v2).toNatClampNeg), m1))
  else
  some ((0 : Int32), m1)
def F_X8_moveOf (fl : Nat) (v0 : Nat) (v1 : Int32) (v2 : Int32) (s : Mem) : Option (Int32 × Mem) :=
  bd (F_X8_in fl v1 (0 : Int32) ((gI s v0 15) - (1 : Int32)) s) fun q7 =>
  if q7 = 0 then (
    B_X8_moveOf_33 fl v0 v1 v2 v0 (1 : Int32) s)
  else
  bd (F_X8_in fl v2 (0 : Int32) (2 : Int32) s) fun q10 =>
  if q10 = 0 then (
    B_X8_moveOf_33 fl v0 v1 v2 v0 (2 : Int32) s)
  else
  B_X8_moveOf_33 fl v0 v1 v2 v0 (0 : Int32) s
def F_X8_isAhead (fl : Nat) (v0 : Nat) (v1 : Int32) (s : Mem) : Option Int32 :=
  bd (F_X8_of fl v0 v1 (8 : Int32) s) fun q1 =>
  if q1 = (1 : Int32) then (
    bd (F_X8_of fl v0 v1 (4 : Int32) s) fun q4 =>
    bd (ldA s v0 1 0) fun r6 =>
    gd (inR (3 : Int32) r6.2) <|
    if q4 < (gI s r6.1 (3 : Int32).toNatClampNeg) then (
      some (0 : Int32))
    else
    some (1 : Int32))
  else
  some (0 : Int32)
def F_X8_comesAs (fl : Nat) (v0 : Nat) (v1 : Int32) (s : Mem) : Option Mem :=
  bd (F_X8_loads fl v0 v1 s) fun q1 =>
  bd (F_X8_of fl v0 v1 (3 : Int32) q1) fun q3 =>
  bd (F_X8_of fl v0 v1 (4 : Int32) q1) fun q5 =>
  bd (F_X8_of fl v0 v1 (5 : Int32) q1) fun q7 =>
  bd (F_X8_comes fl v0 q3 q5 q7 q1) fun q9 =>
  some q9
def B_X8_move_99 (fl : Nat) (v0 : Nat) (v1 : Int32) (v2 : Int32) (w0 : Nat) (w1 : Int32) (s : Mem) : Option (Int32 × Mem) :=
  nx (pI s w0 0 w1) fun m1 =>
  if (gI m1 v0 0) = 0 then (
    bd (F_X8_keeps fl v0 m1) fun q4 =>
    bd (F_X8_of fl v0 v1 (6 : Int32) q4) fun q6 =>
    bd (F_X8_lays fl v0 v1 (6 : Int32) v2 q4) fun q8 =>
    some (q6, q8))
  else
  some ((0 : Int32), m1)
def B_X8_move_45 (fl : Nat) (v0 : Nat) (v1 : Int32) (v2 : Int32) (w0 : Nat) (w1 : Int32) (s : Mem) : Option (Int32 × Mem) :=
  nx (pI s w0 0 w1) fun m10 =>
  if (gI m10 v0 0) = 0 then (
    bd (F_X8_comesAs fl v0 v1 m10) fun q13 =>
    bd (F_X8_of fl v0 v1 (0 : Int32) q13) fun q15 =>
    bd (F_X8_of fl v0 v1 (1 : Int32) q13) fun q17 =>
    bd (F_X8_of fl v0 v1 (2 : Int32) q13) fun q19 =>
    bd (F_X8_obstacleOf fl v0 q15 q17 q19 v2 q13) fun q21 =>
    bd (F_X8_in fl q21.1 (1 : Int32) (3 : Int32) q21.2) fun q23 =>
    if q23 = 0 then (
      B_X8_move_99 fl v0 v1 v2 v0 (0 : Int32) q21.2)
    else
    B_X8_move_99 fl v0 v1 v2 v0 (3 : Int32) q21.2)
  else
  some ((0 : Int32), m10)
def B_X8_move_40 (fl : Nat) (v0 : Nat) (v1 : Int32) (v2 : Int32) (w0 : Nat) (s : Mem) : Option (Int32 × Mem) :=
  B_X8_move_45 fl v0 v1 v2 w0 (2 : Int32) s
def B_X8_move_17 (fl : Nat) (v0 : Nat) (v1 : Int32) (v2 : Int32) (w0 : Nat) (s : Mem) : Option (Int32 × Mem) :=
  B_X8_move_45 fl v0 v1 v2 w0 (1 : Int32) s
def F_X8_move (fl : Nat) (v0 : Nat) (v1 : Int32) (v2 : Int32) (s : Mem) : Option (Int32 × Mem) :=
  bd (F_X8_isParty fl v0 v1 s) fun q26 =>
  if q26 = 0 then (
    B_X8_move_17 fl v0 v1 v2 v0 s)
  else
  bd (F_X8_isPitch fl v0 v2 s) fun q29 =>
  if q29 = 0 then (
    B_X8_move_17 fl v0 v1 v2 v0 s)
  else
  bd (F_X8_isAhead fl v0 v1 s) fun q32 =>
  if q32 = 0 then (
    B_X8_move_40 fl v0 v1 v2 v0 s)
  else
  bd (F_X8_of fl v0 v1 (6 : Int32) s) fun q35 =>
  if q35 = v2 then (
    B_X8_move_40 fl v0 v1 v2 v0 s)
  else
  B_X8_move_45 fl v0 v1 v2 v0 (0 : Int32) s
def B_X8_cancel_86 (fl : Nat) (v0 : Nat) (v1 : Int32) (w0 : Int32) (s : Mem) : Option (Int32 × Mem) :=
  bd (F_X8_lays fl v0 v1 (8 : Int32) (0 : Int32) s) fun q1 =>
  bd (F_X8_lays fl v0 v1 (9 : Int32) w0 q1) fun q3 =>
  some (w0, q3)
def B_X8_cancel_26 (fl : Nat) (v0 : Nat) (v1 : Int32) (w0 : Nat) (w1 : Int32) (s : Mem) : Option (Int32 × Mem) :=
  nx (pI s w0 0 w1) fun m5 =>
  if (gI m5 v0 0) = 0 then (
    bd (F_X8_keeps fl v0 m5) fun q8 =>
    bd (F_X8_of fl v0 v1 (4 : Int32) q8) fun q10 =>
    bd (ldA q8 v0 1 0) fun r12 =>
    gd (inR (3 : Int32) r12.2) <|
    bd (F_X8_of fl v0 v1 (7 : Int32) q8) fun q15 =>
    if (q10 - (gI q8 r12.1 (3 : Int32).toNatClampNeg)) ≤ (6 : Int32) then (
      if (q10 - (gI q8 r12.1 (3 : Int32).toNatClampNeg)) ≤ (2 : Int32) then (
        B_X8_cancel_86 fl v0 v1 q15 q8)
      else
      B_X8_cancel_86 fl v0 v1 (q15 / (2 : Int32)) q8)
    else
    B_X8_cancel_86 fl v0 v1 (0 : Int32) q8)
  else
  some ((0 : Int32), m5)
def F_X8_cancel (fl : Nat) (v0 : Nat) (v1 : Int32) (s : Mem) : Option (Int32 × Mem) :=
  bd (F_X8_isParty fl v0 v1 s) fun q19 =>
  if q19 = 0 then (
    B_X8_cancel_26 fl v0 v1 v0 (1 : Int32) s)
  else
  bd (F_X8_isAhead fl v0 v1 s) fun q22 =>
  if q22 = 0 then (
    B_X8_cancel_26 fl v0 v1 v0 (2 : Int32) s)
  else
  B_X8_cancel_26 fl v0 v1 v0 (0 : Int32) s
def B_X8_advance_98 (k43 : Nat → Int32 → Int32 → Int32 → Mem → Option (Int32 × Mem)) (fl : Nat) (v0 : Nat) (v1 : Int32) (v3 : Int32) (w0 : Int32) (w1 : Int32) (s : Mem) : Option (Int32 × Mem) :=
  k43 v0 v1 (w0 + w1) (v3 + (1 : Int32)) s
def B_X8_advance_97 (k43 : Nat → Int32 → Int32 → Int32 → Mem → Option (Int32 × Mem)) (fl : Nat) (v0 : Nat) (v1 : Int32) (v3 : Int32) (w0 : Int32) (s : Mem) : Option (Int32 × Mem) :=
  B_X8_advance_98 k43 fl v0 v1 v3 w0 (0 : Int32) s
def B_X8_advance_43 (fl : Nat) : Nat → Nat → Int32 → Int32 → Int32 → Mem → Option (Int32 × Mem)
  | 0 => fun _ _ _ _ _ => none
  | n + 1 => fun v0 v1 v2 v3 s =>
    bd (ldA s v0 1 0) fun r1 =>
    gd (inR (1 : Int32) r1.2) <|
    if (gI s r1.1 (1 : Int32).toNatClampNeg) ≤ v3 then (
      bd (ldA s v0 1 0) fun r5 =>
      gd (inR (3 : Int32) r5.2) <|
      gd (inR (3 : Int32) r5.2) <|
      nx (pI s r5.1 (3 : Int32).toNatClampNeg ((gI s r5.1 (3 : Int32).toNatClampNeg) + v1)) fun m9 =>
      some (v2, m9))
    else
    bd (F_X8_of fl v0 v3 (8 : Int32) s) fun q11 =>
    if q11 = (1 : Int32) then (
      bd (F_X8_of fl v0 v3 (4 : Int32) s) fun q14 =>
      bd (ldA s v0 1 0) fun r16 =>
      gd (inR (3 : Int32) r16.2) <|
      bd (ldA s v0 1 0) fun r19 =>
      gd (inR (3 : Int32) r19.2) <|
      bd (F_X8_in fl q14 (gI s r16.1 (3 : Int32).toNatClampNeg) (((gI s r19.1 (3 : Int32).toNatClampNeg) + v1) - (1 : Int32)) s) fun q22 =>
      if q22 = 0 then (
        B_X8_advance_97 (B_X8_advance_43 fl n) fl v0 v1 v3 v2 s)
      else
      B_X8_advance_98 (B_X8_advance_43 fl n) fl v0 v1 v3 v2 (1 : Int32) s)
    else
    B_X8_advance_97 (B_X8_advance_43 fl n) fl v0 v1 v3 v2 s
def B_X8_advance_23 (fl : Nat) (v0 : Nat) (v1 : Int32) (w0 : Nat) (w1 : Int32) (s : Mem) : Option (Int32 × Mem) :=
  nx (pI s w0 0 w1) fun m25 =>
  if (gI m25 v0 0) = 0 then (
    bd (F_X8_keeps fl v0 m25) fun q28 =>
    B_X8_advance_43 fl fl v0 v1 (0 : Int32) (0 : Int32) q28)
  else
  some ((0 : Int32), m25)
def F_X8_advance (fl : Nat) (v0 : Nat) (v1 : Int32) (s : Mem) : Option (Int32 × Mem) :=
  bd (ldA s v0 1 0) fun r30 =>
  gd (inR (3 : Int32) r30.2) <|
  bd (F_X8_in fl v1 (0 : Int32) ((60 : Int32) - (gI s r30.1 (3 : Int32).toNatClampNeg)) s) fun q33 =>
  if q33 = 0 then (
    B_X8_advance_23 fl v0 v1 v0 (1 : Int32) s)
  else
  B_X8_advance_23 fl v0 v1 v0 (0 : Int32) s
def F_X8_tonight (fl : Nat) (v0 : Nat) (s : Mem) : Option (Int32 × Mem) :=
  nx (pI s v0 0 (0 : Int32)) fun m1 =>
  bd (ldA m1 v0 1 0) fun r3 =>
  gd (inR (3 : Int32) r3.2) <|
  some ((gI m1 r3.1 (3 : Int32).toNatClampNeg), m1)
def B_X8_obstacle_22 (fl : Nat) (v0 : Nat) (v1 : Int32) (v2 : Int32) (w0 : Nat) (w1 : Int32) (s : Mem) : Option (Int32 × Mem) :=
  nx (pI s w0 0 w1) fun m1 =>
  if (gI m1 v0 0) = 0 then (
    bd (F_X8_comesAs fl v0 v1 m1) fun q4 =>
    bd (F_X8_of fl v0 v1 (0 : Int32) q4) fun q6 =>
    bd (F_X8_of fl v0 v1 (1 : Int32) q4) fun q8 =>
    bd (F_X8_of fl v0 v1 (2 : Int32) q4) fun q10 =>
    bd (F_X8_obstacleOf fl v0 q6 q8 q10 v2 q4) fun q12 =>
    some (q12.1, q12.2))
  else
  some ((0 : Int32), m1)
def B_X8_obstacle_21 (fl : Nat) (v0 : Nat) (v1 : Int32) (v2 : Int32) (w0 : Nat) (s : Mem) : Option (Int32 × Mem) :=
  B_X8_obstacle_22 fl v0 v1 v2 w0 (1 : Int32) s
def F_X8_obstacle (fl : Nat) (v0 : Nat) (v1 : Int32) (v2 : Int32) (s : Mem) : Option (Int32 × Mem) :=
  bd (F_X8_isParty fl v0 v1 s) fun q14 =>
  if q14 = 0 then (
    B_X8_obstacle_21 fl v0 v1 v2 v0 s)
  else
  bd (F_X8_isPitch fl v0 v2 s) fun q17 =>
  if q17 = 0 then (
    B_X8_obstacle_21 fl v0 v1 v2 v0 s)
  else
  B_X8_obstacle_22 fl v0 v1 v2 v0 (0 : Int32) s
def B_X8_occupant_86 (k40 : Nat → Int32 → Int32 → Int32 → Mem → Option (Int32 × Mem)) (fl : Nat) (v0 : Nat) (v1 : Int32) (v2 : Int32) (v3 : Int32) (s : Mem) : Option (Int32 × Mem) :=
  k40 v0 v1 v2 (v3 + (1 : Int32)) s
def B_X8_occupant_40 (fl : Nat) : Nat → Nat → Int32 → Int32 → Int32 → Mem → Option (Int32 × Mem)
  | 0 => fun _ _ _ _ _ => none
  | n + 1 => fun v0 v1 v2 v3 s =>
    if (12 : Int32) ≤ v3 then (
      some ((-1 : Int32), s))
    else
    bd (ldA s v0 4 0) fun r2 =>
    gd (inR v3 r2.2) <|
    if (gI s r2.1 v3.toNatClampNeg) = v1 then (
      bd (ldA s v0 5 0) fun r6 =>
      gd (inR v3 r6.2) <|
      bd (ldA s v0 5 0) fun r9 =>
      gd (inR v3 r9.2) <|
      bd (ldA s v0 6 0) fun r12 =>
      gd (inR v3 r12.2) <|
      bd (F_X8_in fl v2 (gI s r6.1 v3.toNatClampNeg) (((gI s r9.1 v3.toNatClampNeg) + (gI s r12.1 v3.toNatClampNeg)) - (1 : Int32)) s) fun q15 =>
      if q15 = 0 then (
        B_X8_occupant_86 (B_X8_occupant_40 fl n) fl v0 v1 v2 v3 s)
      else
      some (v3, s))
    else
    B_X8_occupant_86 (B_X8_occupant_40 fl n) fl v0 v1 v2 v3 s
def B_X8_occupant_21 (fl : Nat) (v0 : Nat) (v1 : Int32) (v2 : Int32) (w0 : Nat) (w1 : Int32) (s : Mem) : Option (Int32 × Mem) :=
  nx (pI s w0 0 w1) fun m18 =>
  if (gI m18 v0 0) = 0 then (
    bd (F_X8_loads fl v0 (-1 : Int32) m18) fun q21 =>
    B_X8_occupant_40 fl fl v0 v1 v2 (0 : Int32) q21)
  else
  some ((0 : Int32), m18)
def B_X8_occupant_20 (fl : Nat) (v0 : Nat) (v1 : Int32) (v2 : Int32) (w0 : Nat) (s : Mem) : Option (Int32 × Mem) :=
  B_X8_occupant_21 fl v0 v1 v2 w0 (1 : Int32) s
def F_X8_occupant (fl : Nat) (v0 : Nat) (v1 : Int32) (v2 : Int32) (s : Mem) : Option (Int32 × Mem) :=
  bd (F_X8_isPitch fl v0 v1 s) fun q23 =>
  if q23 = 0 then (
    B_X8_occupant_20 fl v0 v1 v2 v0 s)
  else
  bd (F_X8_isNight fl v2 s) fun q26 =>
  if q26 = 0 then (
    B_X8_occupant_20 fl v0 v1 v2 v0 s)
  else
  B_X8_occupant_21 fl v0 v1 v2 v0 (0 : Int32) s
def B_X8_busyNight_75 (k43 : Nat → Int64 → Int32 → Int32 → Mem → Option (Int32 × Mem)) (fl : Nat) (v0 : Nat) (v3 : Int64) (v5 : Int32) (v6 : Int32) (s : Mem) : Option (Int32 × Mem) :=
  k43 v0 v3 v5 (v6 + (1 : Int32)) s
def B_X8_busyNight_43 (fl : Nat) : Nat → Nat → Int64 → Int32 → Int32 → Mem → Option (Int32 × Mem)
  | 0 => fun _ _ _ _ _ => none
  | n + 1 => fun v0 v3 v5 v6 s =>
    if (60 : Int32) ≤ v6 then (
      nx (pI s v0 0 (2 : Int32)) fun m2 =>
      some ((0 : Int32), m2))
    else
    if (lg_cmp ((v3 >>> (Int32.toInt64 v6 &&& 63)) &&& (1 : Int64)) (0 : Int64)) = 0 then (
      B_X8_busyNight_75 (B_X8_busyNight_43 fl n) fl v0 v3 v5 v6 s)
    else
    if v5 = 0 then (
      some (v6, s))
    else
    B_X8_busyNight_75 (B_X8_busyNight_43 fl n) fl v0 v3 (v5 + (-1 : Int32)) v6 s
def B_X8_busyNight_14 (fl : Nat) (v0 : Nat) (v1 : Int32) (v2 : Int32) (w0 : Nat) (w1 : Int32) (s : Mem) : Option (Int32 × Mem) :=
  nx (pI s w0 0 w1) fun m6 =>
  if (gI m6 v0 0) = 0 then (
    bd (F_X8_loads fl v0 (-1 : Int32) m6) fun q9 =>
    bd (F_X8_maskOf fl v0 v1 q9) fun q11 =>
    B_X8_busyNight_43 fl fl v0 q11 v2 (0 : Int32) q9)
  else
  some ((0 : Int32), m6)
def F_X8_busyNight (fl : Nat) (v0 : Nat) (v1 : Int32) (v2 : Int32) (s : Mem) : Option (Int32 × Mem) :=
  bd (F_X8_isPitch fl v0 v1 s) fun q13 =>
  if q13 = 0 then (
    B_X8_busyNight_14 fl v0 v1 v2 v0 (1 : Int32) s)
  else
  B_X8_busyNight_14 fl v0 v1 v2 v0 (0 : Int32) s
def B_X8_firstFree_62 (fl : Nat) : Nat → Nat → Int32 → Int64 → Int32 → Mem → Option (Int32 × Mem)
  | 0 => fun _ _ _ _ _ => none
  | n + 1 => fun v0 v3 v4 v6 s =>
    if (60 : Int32) < (v6 + v3) then (
      nx (pI s v0 0 (3 : Int32)) fun m2 =>
      some ((0 : Int32), m2))
    else
    bd (F_X8_mask fl v6 v3 s) fun q4 =>
    if (lg_cmp (v4 &&& q4) (0 : Int64)) = 0 then (
      some (v6, s))
    else
    B_X8_firstFree_62 fl n v0 v3 v4 (v6 + (1 : Int32)) s
def B_X8_firstFree_35 (fl : Nat) (v0 : Nat) (v1 : Int32) (v2 : Int32) (v3 : Int32) (w0 : Nat) (w1 : Int32) (s : Mem) : Option (Int32 × Mem) :=
  nx (pI s w0 0 w1) fun m7 =>
  if (gI m7 v0 0) = 0 then (
    bd (F_X8_loads fl v0 (-1 : Int32) m7) fun q10 =>
    bd (F_X8_maskOf fl v0 v1 q10) fun q12 =>
    B_X8_firstFree_62 fl fl v0 v3 q12 v2 q10)
  else
  some ((0 : Int32), m7)
def B_X8_firstFree_34 (fl : Nat) (v0 : Nat) (v1 : Int32) (v2 : Int32) (v3 : Int32) (w0 : Nat) (s : Mem) : Option (Int32 × Mem) :=
  B_X8_firstFree_35 fl v0 v1 v2 v3 w0 (2 : Int32) s
def F_X8_firstFree (fl : Nat) (v0 : Nat) (v1 : Int32) (v2 : Int32) (v3 : Int32) (s : Mem) : Option (Int32 × Mem) :=
  bd (F_X8_isPitch fl v0 v1 s) fun q14 =>
  if q14 = 0 then (
    B_X8_firstFree_35 fl v0 v1 v2 v3 v0 (1 : Int32) s)
  else
  bd (F_X8_isNight fl v2 s) fun q17 =>
  if q17 = 0 then (
    B_X8_firstFree_34 fl v0 v1 v2 v3 v0 s)
  else
  bd (F_X8_in fl v3 (1 : Int32) (14 : Int32) s) fun q20 =>
  if q20 = 0 then (
    B_X8_firstFree_34 fl v0 v1 v2 v3 v0 s)
  else
  B_X8_firstFree_35 fl v0 v1 v2 v3 v0 (0 : Int32) s
def B_X8_power_20 (fl : Nat) (v0 : Nat) (v1 : Int32) (v2 : Int32) (w0 : Nat) (w1 : Int32) (s : Mem) : Option (Int32 × Mem) :=
  nx (pI s w0 0 w1) fun m1 =>
  if (gI m1 v0 0) = 0 then (
    bd (F_X8_loads fl v0 (-1 : Int32) m1) fun q4 =>
    bd (F_X8_powerAt fl v0 v1 v2 q4) fun q6 =>
    some (q6, q4))
  else
  some ((0 : Int32), m1)
def B_X8_power_19 (fl : Nat) (v0 : Nat) (v1 : Int32) (v2 : Int32) (w0 : Nat) (s : Mem) : Option (Int32 × Mem) :=
  B_X8_power_20 fl v0 v1 v2 w0 (1 : Int32) s
def F_X8_power (fl : Nat) (v0 : Nat) (v1 : Int32) (v2 : Int32) (s : Mem) : Option (Int32 × Mem) :=
  bd (F_X8_isCircuit fl v1 s) fun q8 =>
  if q8 = 0 then (
    B_X8_power_19 fl v0 v1 v2 v0 s)
  else
  bd (F_X8_isNight fl v2 s) fun q11 =>
  if q11 = 0 then (
    B_X8_power_19 fl v0 v1 v2 v0 s)
  else
  B_X8_power_20 fl v0 v1 v2 v0 (0 : Int32) s
def B_X8_peak_78 (k37 : Nat → Int32 → Int32 → Int32 → Int32 → Mem → Option (Int32 × Mem)) (fl : Nat) (v0 : Nat) (v1 : Int32) (v3 : Int32) (v4 : Int32) (w0 : Int32) (s : Mem) : Option (Int32 × Mem) :=
  k37 v0 v1 w0 v3 (v4 + (1 : Int32)) s
def B_X8_peak_65 (k37 : Nat → Int32 → Int32 → Int32 → Int32 → Mem → Option (Int32 × Mem)) (fl : Nat) (v0 : Nat) (v1 : Int32) (v2 : Int32) (v4 : Int32) (v5 : Int32) (w0 : Int32) (s : Mem) : Option (Int32 × Mem) :=
  if v5 ≤ v2 then (
    B_X8_peak_78 k37 fl v0 v1 w0 v4 v2 s)
  else
  B_X8_peak_78 k37 fl v0 v1 w0 v4 v5 s
def B_X8_peak_95 (fl : Nat) (v0 : Nat) (v3 : Int32) (w0 : Nat) (w1 : Int32) (s : Mem) : Option (Int32 × Mem) :=
  nx (pI s w0 0 w1) fun m2 =>
  if (gI m2 v0 0) = 0 then (
    some (v3, m2))
  else
  some ((0 : Int32), m2)
def B_X8_peak_37 (fl : Nat) : Nat → Nat → Int32 → Int32 → Int32 → Int32 → Mem → Option (Int32 × Mem)
  | 0 => fun _ _ _ _ _ _ => none
  | n + 1 => fun v0 v1 v2 v3 v4 s =>
    if (60 : Int32) ≤ v4 then (
      if v2 = 0 then (
        B_X8_peak_95 fl v0 v3 v0 (2 : Int32) s)
      else
      B_X8_peak_95 fl v0 v3 v0 (0 : Int32) s)
    else
    bd (F_X8_powerAt fl v0 v1 v4 s) fun q7 =>
    if q7 ≤ v2 then (
      B_X8_peak_65 (B_X8_peak_37 fl n) fl v0 v1 v2 v4 q7 v3 s)
    else
    B_X8_peak_65 (B_X8_peak_37 fl n) fl v0 v1 v2 v4 q7 v4 s
def B_X8_peak_13 (fl : Nat) (v0 : Nat) (v1 : Int32) (w0 : Nat) (w1 : Int32) (s : Mem) : Option (Int32 × Mem) :=
  nx (pI s w0 0 w1) fun m10 =>
  if (gI m10 v0 0) = 0 then (
    bd (F_X8_loads fl v0 (-1 : Int32) m10) fun q13 =>
    B_X8_peak_37 fl fl v0 v1 (0 : Int32) (0 : Int32) (0 : Int32) q13)
  else
  some ((0 : Int32), m10)
def F_X8_peak (fl : Nat) (v0 : Nat) (v1 : Int32) (s : Mem) : Option (Int32 × Mem) :=
  bd (F_X8_isCircuit fl v1 s) fun q15 =>
  if q15 = 0 then (
    B_X8_peak_13 fl v0 v1 v0 (1 : Int32) s)
  else
  B_X8_peak_13 fl v0 v1 v0 (0 : Int32) s
def B_X8_gap_57 (fl : Nat) (v0 : Nat) (v3 : Int32) (w0 : Nat) (w1 : Int32) (s : Mem) : Option (Int32 × Mem) :=
  nx (pI s w0 0 w1) fun m1 =>
  if (gI m1 v0 0) = 0 then (
    if v3 = 0 then (
      some ((gI m1 v0 8), m1))
    else
    some ((gI m1 v0 9), m1))
  else
  some ((0 : Int32), m1)
def B_X8_gap_14 (fl : Nat) (v0 : Nat) (v1 : Int32) (v2 : Int32) (v3 : Int32) (w0 : Nat) (w1 : Int32) (s : Mem) : Option (Int32 × Mem) :=
  nx (pI s w0 0 w1) fun m5 =>
  if (gI m5 v0 0) = 0 then (
    bd (F_X8_loads fl v0 (-1 : Int32) m5) fun q8 =>
    bd (F_X8_maskOf fl v0 v1 q8) fun q10 =>
    bd (F_X8_gaps fl v0 q10 v2 q8) fun q12 =>
    bd (F_X8_in fl v2 (0 : Int32) (q12.1 - (1 : Int32)) q12.2) fun q14 =>
    if q14 = 0 then (
      B_X8_gap_57 fl v0 v3 v0 (2 : Int32) q12.2)
    else
    B_X8_gap_57 fl v0 v3 v0 (0 : Int32) q12.2)
  else
  some ((0 : Int32), m5)
def F_X8_gap (fl : Nat) (v0 : Nat) (v1 : Int32) (v2 : Int32) (v3 : Int32) (s : Mem) : Option (Int32 × Mem) :=
  bd (F_X8_isPitch fl v0 v1 s) fun q17 =>
  if q17 = 0 then (
    B_X8_gap_14 fl v0 v1 v2 v3 v0 (1 : Int32) s)
  else
  B_X8_gap_14 fl v0 v1 v2 v3 v0 (0 : Int32) s
def B_X8_sum_48 (k5 : Nat → Int32 → Int32 → Int32 → Int32 → Option Int32) (fl : Nat) (s : Mem) (v0 : Nat) (v1 : Int32) (v2 : Int32) (v4 : Int32) (w0 : Int32) (w1 : Int32) : Option Int32 :=
  k5 v0 v1 v2 (w0 + w1) (v4 + (1 : Int32))
def B_X8_sum_5 (fl : Nat) (s : Mem) : Nat → Nat → Int32 → Int32 → Int32 → Int32 → Option Int32
  | 0 => fun _ _ _ _ _ => none
  | n + 1 => fun v0 v1 v2 v3 v4 =>
    bd (ldA s v0 1 0) fun r1 =>
    gd (inR (1 : Int32) r1.2) <|
    if (gI s r1.1 (1 : Int32).toNatClampNeg) ≤ v4 then (
      some v3)
    else
    bd (F_X8_of fl v0 v4 (8 : Int32) s) fun q5 =>
    if q5 = v2 then (
      if 0 ≤ v1 then (
        bd (F_X8_of fl v0 v4 v1 s) fun q9 =>
        B_X8_sum_48 (B_X8_sum_5 fl s n) fl s v0 v1 v2 v4 v3 q9)
      else
      B_X8_sum_48 (B_X8_sum_5 fl s n) fl s v0 v1 v2 v4 v3 (1 : Int32))
    else
    B_X8_sum_48 (B_X8_sum_5 fl s n) fl s v0 v1 v2 v4 v3 (0 : Int32)
def F_X8_sum (fl : Nat) (v0 : Nat) (v1 : Int32) (v2 : Int32) (s : Mem) : Option Int32 :=
  B_X8_sum_5 fl s fl v0 v1 v2 (0 : Int32) (0 : Int32)
def B_X8_busyNights_9 (fl : Nat) : Nat → Nat → Int32 → Int32 → Mem → Option (Int32 × Mem)
  | 0 => fun _ _ _ _ => none
  | n + 1 => fun v0 v1 v2 s =>
    bd (ldA s v0 1 0) fun r1 =>
    gd (inR (0 : Int32) r1.2) <|
    if (gI s r1.1 (0 : Int32).toNatClampNeg) ≤ v2 then (
      some (v1, s))
    else
    bd (F_X8_maskOf fl v0 v2 s) fun q5 =>
    bd (F_X8_bits fl q5 s) fun q7 =>
    B_X8_busyNights_9 fl n v0 (v1 + q7) (v2 + (1 : Int32)) s
def F_X8_busyNights (fl : Nat) (v0 : Nat) (s : Mem) : Option (Int32 × Mem) :=
  bd (F_X8_loads fl v0 (-1 : Int32) s) fun q9 =>
  B_X8_busyNights_9 fl fl v0 (0 : Int32) (0 : Int32) q9
def B_X8_account_16 (fl : Nat) (v0 : Nat) (v1 : Int32) (w0 : Nat) (w1 : Int32) (s : Mem) : Option (Int32 × Mem) :=
  nx (pI s w0 0 w1) fun m1 =>
  if (gI m1 v0 0) = 0 then (
    bd (F_X8_loads fl v0 (-1 : Int32) m1) fun q4 =>
    if v1 = 0 then (
      bd (ldA q4 v0 1 0) fun r7 =>
      gd (inR (0 : Int32) r7.2) <|
      some ((gI q4 r7.1 (0 : Int32).toNatClampNeg), q4))
    else
    if v1 = 1 then (
      bd (F_X8_sum fl v0 (-1 : Int32) (1 : Int32) q4) fun q11 =>
      some (q11, q4))
    else
    if v1 = 2 then (
      bd (F_X8_sum fl v0 (-1 : Int32) (0 : Int32) q4) fun q14 =>
      some (q14, q4))
    else
    if v1 = 3 then (
      bd (F_X8_sum fl v0 (7 : Int32) (1 : Int32) q4) fun q17 =>
      some (q17, q4))
    else
    if v1 = 4 then (
      bd (F_X8_sum fl v0 (9 : Int32) (0 : Int32) q4) fun q20 =>
      some (q20, q4))
    else
    if v1 = 5 then (
      bd (F_X8_gapsOfAll fl v0 q4) fun q23 =>
      some (q23.1, q23.2))
    else
    if v1 = 6 then (
      bd (F_X8_busyNights fl v0 q4) fun q26 =>
      some (q26.1, q26.2))
    else
    bd (ldA q4 v0 1 0) fun r28 =>
    gd (inR (2 : Int32) r28.2) <|
    some ((gI q4 r28.1 (2 : Int32).toNatClampNeg), q4))
  else
  some ((0 : Int32), m1)
def F_X8_account (fl : Nat) (v0 : Nat) (v1 : Int32) (s : Mem) : Option (Int32 × Mem) :=
  bd (F_X8_in fl v1 (0 : Int32) (7 : Int32) s) fun q31 =>
  if q31 = 0 then (
    B_X8_account_16 fl v0 v1 v0 (1 : Int32) s)
  else
  B_X8_account_16 fl v0 v1 v0 (0 : Int32) s
def B_X8_share_15 (fl : Nat) (v0 : Nat) (w0 : Nat) (w1 : Int32) (s : Mem) : Option (UInt64 × Mem) :=
  nx (pI s w0 0 w1) fun m1 =>
  if (gI m1 v0 0) = 0 then (
    bd (F_X8_busyNights fl v0 m1) fun q4 =>
    bd (ldA q4.2 v0 1 0) fun r6 =>
    gd (inR (0 : Int32) r6.2) <|
    gd (nNaN (FP.ddiv (FP.i2d q4.1) (FP.i2d ((60 : Int32) * (gI q4.2 r6.1 (0 : Int32).toNatClampNeg))))) <|
    some ((FP.ddiv (FP.i2d q4.1) (FP.i2d ((60 : Int32) * (gI q4.2 r6.1 (0 : Int32).toNatClampNeg)))), q4.2))
  else
  some (FP.dconst0, m1)
def F_X8_share (fl : Nat) (v0 : Nat) (s : Mem) : Option (UInt64 × Mem) :=
  bd (ldA s v0 1 0) fun r10 =>
  gd (inR (0 : Int32) r10.2) <|
  if (gI s r10.1 (0 : Int32).toNatClampNeg) = 0 then (
    B_X8_share_15 fl v0 v0 (1 : Int32) s)
  else
  B_X8_share_15 fl v0 v0 (0 : Int32) s
def B_X8_undo_13 (fl : Nat) (v0 : Nat) (w0 : Nat) (w1 : Int32) (s : Mem) : Option (Int32 × Mem) :=
  nx (pI s w0 0 w1) fun m1 =>
  if (gI m1 v0 0) = 0 then (
    bd (F_X8_copies fl v0 (gI m1 v0 2) (0 : Int32) m1) fun q4 =>
    nx (pI q4 v0 2 ((gI q4 v0 2) - (1 : Int32))) fun m6 =>
    some ((gI m6 v0 2), m6))
  else
  some ((0 : Int32), m1)
def F_X8_undo (fl : Nat) (v0 : Nat) (s : Mem) : Option (Int32 × Mem) :=
  if (gI s v0 2) = 0 then (
    B_X8_undo_13 fl v0 v0 (1 : Int32) s)
  else
  B_X8_undo_13 fl v0 v0 (0 : Int32) s
def F_X8_save (fl : Nat) (v0 : Nat) (s : Mem) : Option Mem :=
  nx (pI s v0 0 (0 : Int32)) fun m1 =>
  nx (pI m1 v0 3 (1 : Int32)) fun m3 =>
  bd (F_X8_copies fl v0 (0 : Int32) (9 : Int32) m3) fun q5 =>
  some q5
def B_X8_restore_13 (fl : Nat) (v0 : Nat) (w0 : Nat) (w1 : Int32) (s : Mem) : Option Mem :=
  nx (pI s w0 0 w1) fun m1 =>
  if (gI m1 v0 0) = 0 then (
    bd (F_X8_copies fl v0 (9 : Int32) (0 : Int32) m1) fun q4 =>
    nx (pI q4 v0 2 (0 : Int32)) fun m6 =>
    some m6)
  else
  some m1
def F_X8_restore (fl : Nat) (v0 : Nat) (s : Mem) : Option Mem :=
  if (gI s v0 3) = 0 then (
    B_X8_restore_13 fl v0 v0 (1 : Int32) s)
  else
  B_X8_restore_13 fl v0 v0 (0 : Int32) s
def F_L_addPitch (fl : Nat) (v0 : Nat) (v1 : Int32) (v2 : Int32) (v3 : Int32) (v4 : Int32) (v5 : Nat) (s : Mem) : Option (Int32 × Mem) :=
  bd (F_X7_addPitch fl v0 v1 v2 v3 v4 s) fun q1 =>
  xc q1 (fun e7 s4 =>
    if e7 = 1 then (
      some ((1 : Int32), s4))
    else
    if e7 = 2 then (
      some ((2 : Int32), s4))
    else
    none) fun x3 s4 =>
  bd (aLen v5 1) fun N8 =>
  gd (inR (0 : Int32) N8) <|
  nx (pL s4 v5 (0 : Int32).toNatClampNeg (Int32.toInt64 x3)) fun m11 =>
  some ((0 : Int32), m11)
def F_L_pitch (fl : Nat) (v0 : Nat) (v1 : Int32) (v2 : Int32) (v3 : Nat) (s : Mem) : Option (Int32 × Mem) :=
  bd (F_X7_pitch fl v0 v1 v2 s) fun q1 =>
  xc q1 (fun e7 s4 =>
    if e7 = 3 then (
      some ((1 : Int32), s4))
    else
    if e7 = 1 then (
      some ((2 : Int32), s4))
    else
    none) fun x3 s4 =>
  bd (aLen v3 1) fun N8 =>
  gd (inR (0 : Int32) N8) <|
  nx (pL s4 v3 (0 : Int32).toNatClampNeg (Int32.toInt64 x3)) fun m11 =>
  some ((0 : Int32), m11)
def F_L_setLimit (fl : Nat) (v0 : Nat) (v1 : Int32) (v2 : Int32) (v3 : Nat) (s : Mem) : Option (Int32 × Mem) :=
  bd (F_X7_setLimit fl v0 v1 v2 s) fun q1 =>
  xc q1 (fun e7 s4 =>
    if e7 = 3 then (
      some ((1 : Int32), s4))
    else
    if e7 = 1 then (
      some ((2 : Int32), s4))
    else
    none) fun x3 s4 =>
  bd (aLen v3 1) fun N8 =>
  gd (inR (0 : Int32) N8) <|
  nx (pL s4 v3 (0 : Int32).toNatClampNeg (Int32.toInt64 x3)) fun m11 =>
  some ((0 : Int32), m11)
def F_L_setRate (fl : Nat) (v0 : Nat) (v1 : Int32) (v2 : Int32) (v3 : Nat) (s : Mem) : Option (Int32 × Mem) :=
  bd (F_X7_setRate fl v0 v1 v2 s) fun q1 =>
  xc q1 (fun e7 s4 =>
    if e7 = 3 then (
      some ((1 : Int32), s4))
    else
    if e7 = 1 then (
      some ((2 : Int32), s4))
    else
    none) fun x3 s4 =>
  bd (aLen v3 1) fun N8 =>
  gd (inR (0 : Int32) N8) <|
  nx (pL s4 v3 (0 : Int32).toNatClampNeg (Int32.toInt64 x3)) fun m11 =>
  some ((0 : Int32), m11)
def F_L_setGap (fl : Nat) (v0 : Nat) (v1 : Int32) (v2 : Nat) (s : Mem) : Option (Int32 × Mem) :=
  bd (F_X7_setGap fl v0 v1 s) fun q1 =>
  xc q1 (fun e7 s4 =>
    if e7 = 1 then (
      some ((1 : Int32), s4))
    else
    none) fun x3 s4 =>
  bd (aLen v2 1) fun N8 =>
  gd (inR (0 : Int32) N8) <|
  nx (pL s4 v2 (0 : Int32).toNatClampNeg (Int32.toInt64 x3)) fun m11 =>
  some ((0 : Int32), m11)
def F_L_addSeason (fl : Nat) (v0 : Nat) (v1 : Int32) (v2 : Int32) (v3 : Int32) (v4 : Nat) (s : Mem) : Option (Int32 × Mem) :=
  bd (F_X7_addSeason fl v0 v1 v2 v3 s) fun q1 =>
  xc q1 (fun e7 s4 =>
    if e7 = 1 then (
      some ((1 : Int32), s4))
    else
    if e7 = 2 then (
      some ((2 : Int32), s4))
    else
    none) fun x3 s4 =>
  bd (aLen v4 1) fun N8 =>
  gd (inR (0 : Int32) N8) <|
  nx (pL s4 v4 (0 : Int32).toNatClampNeg (Int32.toInt64 x3)) fun m11 =>
  some ((0 : Int32), m11)
def F_L_dropSeason (fl : Nat) (v0 : Nat) (v1 : Int32) (v2 : Nat) (s : Mem) : Option (Int32 × Mem) :=
  bd (F_X7_dropSeason fl v0 v1 s) fun q1 =>
  xc q1 (fun e7 s4 =>
    if e7 = 3 then (
      some ((1 : Int32), s4))
    else
    none) fun x3 s4 =>
  bd (aLen v2 1) fun N8 =>
  gd (inR (0 : Int32) N8) <|
  nx (pL s4 v2 (0 : Int32).toNatClampNeg (Int32.toInt64 x3)) fun m11 =>
  some ((0 : Int32), m11)
def F_L_season (fl : Nat) (v0 : Nat) (v1 : Int32) (v2 : Int32) (v3 : Nat) (s : Mem) : Option (Int32 × Mem) :=
  bd (F_X7_season fl v0 v1 v2 s) fun q1 =>
  xc q1 (fun e7 s4 =>
    if e7 = 3 then (
      some ((1 : Int32), s4))
    else
    if e7 = 1 then (
      some ((2 : Int32), s4))
    else
    none) fun x3 s4 =>
  bd (aLen v3 1) fun N8 =>
  gd (inR (0 : Int32) N8) <|
  nx (pL s4 v3 (0 : Int32).toNatClampNeg (Int32.toInt64 x3)) fun m11 =>
  some ((0 : Int32), m11)
def F_L_leastStay (fl : Nat) (v0 : Nat) (v1 : Int32) (v2 : Int32) (v3 : Nat) (s : Mem) : Option (Int32 × Mem) :=
  bd (F_X7_leastStay fl v0 v1 v2 s) fun q1 =>
  xc q1 (fun e7 s4 =>
    if e7 = 1 then (
      some ((1 : Int32), s4))
    else
    none) fun x3 s4 =>
  bd (aLen v3 1) fun N8 =>
  gd (inR (0 : Int32) N8) <|
  nx (pL s4 v3 (0 : Int32).toNatClampNeg (Int32.toInt64 x3)) fun m11 =>
  some ((0 : Int32), m11)
def F_L_book (fl : Nat) (v0 : Nat) (v1 : Int32) (v2 : Int32) (v3 : Int32) (v4 : Int32) (v5 : Int32) (v6 : Int32) (v7 : Nat) (s : Mem) : Option (Int32 × Mem) :=
  bd (F_X7_book fl v0 v1 v2 v3 v4 v5 v6 s) fun q1 =>
  xc q1 (fun e7 s4 =>
    if e7 = 1 then (
      some ((1 : Int32), s4))
    else
    if e7 = 2 then (
      some ((2 : Int32), s4))
    else
    if e7 = 5 then (
      some ((3 : Int32), s4))
    else
    none) fun x3 s4 =>
  bd (aLen v7 1) fun N8 =>
  gd (inR (0 : Int32) N8) <|
  nx (pL s4 v7 (0 : Int32).toNatClampNeg (Int32.toInt64 x3)) fun m11 =>
  some ((0 : Int32), m11)
def F_L_append (fl : Nat) (v0 : Nat) (v1 : Int32) (s : Mem) : Option (Int32 × Mem) :=
  bd (F_X7_append fl v0 v1 s) fun q1 =>
  xc q1 (fun e6 s3 =>
    if e6 = 2 then (
      some ((1 : Int32), s3))
    else
    none) fun u9 s3 =>
  some ((0 : Int32), s3)
def F_L_readBooking (fl : Nat) (v0 : Nat) (v1 : Nat) (s : Mem) : Option (Int32 × Mem) :=
  bd (F_X7_readBooking fl v0 s) fun q1 =>
  xc q1 (fun e7 s4 =>
    if e7 = 1 then (
      some ((1 : Int32), s4))
    else
    if e7 = 2 then (
      some ((2 : Int32), s4))
    else
    if e7 = 5 then (
      some ((3 : Int32), s4))
    else
    none) fun x3 s4 =>
  bd (aLen v1 1) fun N8 =>
  gd (inR (0 : Int32) N8) <|
  nx (pL s4 v1 (0 : Int32).toNatClampNeg (Int32.toInt64 x3)) fun m11 =>
  some ((0 : Int32), m11)
def F_L_refusal (fl : Nat) (v0 : Nat) (v1 : Nat) (s : Mem) : Option (Int32 × Mem) :=
  bd (F_X7_refusal fl v0 s) fun q1 =>
  xc q1 (fun e7 s4 =>
    if e7 = 6 then (
      some ((1 : Int32), s4))
    else
    none) fun x3 s4 =>
  bd (aLen v1 1) fun N8 =>
  gd (inR (0 : Int32) N8) <|
  nx (pL s4 v1 (0 : Int32).toNatClampNeg (Int32.toInt64 x3)) fun m11 =>
  some ((0 : Int32), m11)
def F_L_party (fl : Nat) (v0 : Nat) (v1 : Int32) (v2 : Int32) (v3 : Nat) (s : Mem) : Option (Int32 × Mem) :=
  bd (F_X7_party fl v0 v1 v2 s) fun q1 =>
  xc q1 (fun e7 s4 =>
    if e7 = 3 then (
      some ((1 : Int32), s4))
    else
    if e7 = 1 then (
      some ((2 : Int32), s4))
    else
    none) fun x3 s4 =>
  bd (aLen v3 1) fun N8 =>
  gd (inR (0 : Int32) N8) <|
  nx (pL s4 v3 (0 : Int32).toNatClampNeg (Int32.toInt64 x3)) fun m11 =>
  some ((0 : Int32), m11)
def F_L_moveOf (fl : Nat) (v0 : Nat) (v1 : Int32) (v2 : Int32) (v3 : Nat) (s : Mem) : Option (Int32 × Mem) :=
  bd (F_X7_moveOf fl v0 v1 v2 s) fun q1 =>
  xc q1 (fun e7 s4 =>
    if e7 = 6 then (
      some ((1 : Int32), s4))
    else
    if e7 = 1 then (
      some ((2 : Int32), s4))
    else
    none) fun x3 s4 =>
  bd (aLen v3 1) fun N8 =>
  gd (inR (0 : Int32) N8) <|
  nx (pL s4 v3 (0 : Int32).toNatClampNeg (Int32.toInt64 x3)) fun m11 =>
  some ((0 : Int32), m11)
def F_L_move (fl : Nat) (v0 : Nat) (v1 : Int32) (v2 : Int32) (v3 : Nat) (s : Mem) : Option (Int32 × Mem) :=
  bd (F_X7_move fl v0 v1 v2 s) fun q1 =>
  xc q1 (fun e7 s4 =>
    if e7 = 3 then (
      some ((1 : Int32), s4))
    else
    if e7 = 2 then (
      some ((2 : Int32), s4))
    else
    if e7 = 5 then (
      some ((3 : Int32), s4))
    else
    none) fun x3 s4 =>
  bd (aLen v3 1) fun N8 =>
  gd (inR (0 : Int32) N8) <|
  nx (pL s4 v3 (0 : Int32).toNatClampNeg (Int32.toInt64 x3)) fun m11 =>
  some ((0 : Int32), m11)
def F_L_cancel (fl : Nat) (v0 : Nat) (v1 : Int32) (v2 : Nat) (s : Mem) : Option (Int32 × Mem) :=
  bd (F_X7_cancel fl v0 v1 s) fun q1 =>
  xc q1 (fun e7 s4 =>
    if e7 = 3 then (
      some ((1 : Int32), s4))
    else
    if e7 = 2 then (
      some ((2 : Int32), s4))
    else
    none) fun x3 s4 =>
  bd (aLen v2 1) fun N8 =>
  gd (inR (0 : Int32) N8) <|
  nx (pL s4 v2 (0 : Int32).toNatClampNeg (Int32.toInt64 x3)) fun m11 =>
  some ((0 : Int32), m11)
def F_L_advance (fl : Nat) (v0 : Nat) (v1 : Int32) (v2 : Nat) (s : Mem) : Option (Int32 × Mem) :=
  bd (F_X7_advance fl v0 v1 s) fun q1 =>
  xc q1 (fun e7 s4 =>
    if e7 = 1 then (
      some ((1 : Int32), s4))
    else
    none) fun x3 s4 =>
  bd (aLen v2 1) fun N8 =>
  gd (inR (0 : Int32) N8) <|
  nx (pL s4 v2 (0 : Int32).toNatClampNeg (Int32.toInt64 x3)) fun m11 =>
  some ((0 : Int32), m11)
def F_L_obstacle (fl : Nat) (v0 : Nat) (v1 : Int32) (v2 : Int32) (v3 : Nat) (s : Mem) : Option (Int32 × Mem) :=
  bd (F_X7_obstacle fl v0 v1 v2 s) fun q1 =>
  xc q1 (fun e7 s4 =>
    if e7 = 3 then (
      some ((1 : Int32), s4))
    else
    none) fun x3 s4 =>
  bd (aLen v3 1) fun N8 =>
  gd (inR (0 : Int32) N8) <|
  nx (pL s4 v3 (0 : Int32).toNatClampNeg (Int32.toInt64 x3)) fun m11 =>
  some ((0 : Int32), m11)
def F_L_occupant (fl : Nat) (v0 : Nat) (v1 : Int32) (v2 : Int32) (v3 : Nat) (s : Mem) : Option (Int32 × Mem) :=
  bd (F_X7_occupant fl v0 v1 v2 s) fun q1 =>
  xc q1 (fun e7 s4 =>
    if e7 = 3 then (
      some ((1 : Int32), s4))
    else
    none) fun x3 s4 =>
  bd (aLen v3 1) fun N8 =>
  gd (inR (0 : Int32) N8) <|
  nx (pL s4 v3 (0 : Int32).toNatClampNeg (Int32.toInt64 x3)) fun m11 =>
  some ((0 : Int32), m11)
def F_L_busyNight (fl : Nat) (v0 : Nat) (v1 : Int32) (v2 : Int32) (v3 : Nat) (s : Mem) : Option (Int32 × Mem) :=
  bd (F_X7_busyNight fl v0 v1 v2 s) fun q1 =>
  xc q1 (fun e7 s4 =>
    if e7 = 3 then (
      some ((1 : Int32), s4))
    else
    if e7 = 6 then (
      some ((2 : Int32), s4))
    else
    none) fun x3 s4 =>
  bd (aLen v3 1) fun N8 =>
  gd (inR (0 : Int32) N8) <|
  nx (pL s4 v3 (0 : Int32).toNatClampNeg (Int32.toInt64 x3)) fun m11 =>
  some ((0 : Int32), m11)
def F_L_firstFree (fl : Nat) (v0 : Nat) (v1 : Int32) (v2 : Int32) (v3 : Int32) (v4 : Nat) (s : Mem) : Option (Int32 × Mem) :=
  bd (F_X7_firstFree fl v0 v1 v2 v3 s) fun q1 =>
  xc q1 (fun e7 s4 =>
    if e7 = 3 then (
      some ((1 : Int32), s4))
    else
    if e7 = 1 then (
      some ((2 : Int32), s4))
    else
    if e7 = 6 then (
      some ((3 : Int32), s4))
    else
    none) fun x3 s4 =>
  bd (aLen v4 1) fun N8 =>
  gd (inR (0 : Int32) N8) <|
  nx (pL s4 v4 (0 : Int32).toNatClampNeg (Int32.toInt64 x3)) fun m11 =>
  some ((0 : Int32), m11)
def F_L_power (fl : Nat) (v0 : Nat) (v1 : Int32) (v2 : Int32) (v3 : Nat) (s : Mem) : Option (Int32 × Mem) :=
  bd (F_X7_power fl v0 v1 v2 s) fun q1 =>
  xc q1 (fun e7 s4 =>
    if e7 = 3 then (
      some ((1 : Int32), s4))
    else
    none) fun x3 s4 =>
  bd (aLen v3 1) fun N8 =>
  gd (inR (0 : Int32) N8) <|
  nx (pL s4 v3 (0 : Int32).toNatClampNeg (Int32.toInt64 x3)) fun m11 =>
  some ((0 : Int32), m11)
def F_L_peak (fl : Nat) (v0 : Nat) (v1 : Int32) (v2 : Nat) (s : Mem) : Option (Int32 × Mem) :=
  bd (F_X7_peak fl v0 v1 s) fun q1 =>
  xc q1 (fun e7 s4 =>
    if e7 = 3 then (
      some ((1 : Int32), s4))
    else
    if e7 = 6 then (
      some ((2 : Int32), s4))
    else
    none) fun x3 s4 =>
  bd (aLen v2 1) fun N8 =>
  gd (inR (0 : Int32) N8) <|
  nx (pL s4 v2 (0 : Int32).toNatClampNeg (Int32.toInt64 x3)) fun m11 =>
  some ((0 : Int32), m11)
def F_L_gap (fl : Nat) (v0 : Nat) (v1 : Int32) (v2 : Int32) (v3 : Int32) (v4 : Nat) (s : Mem) : Option (Int32 × Mem) :=
  bd (F_X7_gap fl v0 v1 v2 v3 s) fun q1 =>
  xc q1 (fun e7 s4 =>
    if e7 = 3 then (
      some ((1 : Int32), s4))
    else
    if e7 = 6 then (
      some ((2 : Int32), s4))
    else
    none) fun x3 s4 =>
  bd (aLen v4 1) fun N8 =>
  gd (inR (0 : Int32) N8) <|
  nx (pL s4 v4 (0 : Int32).toNatClampNeg (Int32.toInt64 x3)) fun m11 =>
  some ((0 : Int32), m11)
def F_L_account (fl : Nat) (v0 : Nat) (v1 : Int32) (v2 : Nat) (s : Mem) : Option (Int32 × Mem) :=
  bd (F_X7_account fl v0 v1 s) fun q1 =>
  xc q1 (fun e7 s4 =>
    if e7 = 1 then (
      some ((1 : Int32), s4))
    else
    none) fun x3 s4 =>
  bd (aLen v2 1) fun N8 =>
  gd (inR (0 : Int32) N8) <|
  nx (pL s4 v2 (0 : Int32).toNatClampNeg (Int32.toInt64 x3)) fun m11 =>
  some ((0 : Int32), m11)
def F_L_share (fl : Nat) (v0 : Nat) (v1 : Nat) (s : Mem) : Option (Int32 × Mem) :=
  bd (F_X7_share fl v0 s) fun q1 =>
  xc q1 (fun e7 s4 =>
    if e7 = 4 then (
      some ((1 : Int32), s4))
    else
    none) fun x3 s4 =>
  bd (aLen v1 3) fun N8 =>
  gd (inR (0 : Int32) N8) <|
  nx (pD s4 v1 (0 : Int32).toNatClampNeg x3) fun m11 =>
  some ((0 : Int32), m11)
def F_L_undo (fl : Nat) (v0 : Nat) (v1 : Nat) (s : Mem) : Option (Int32 × Mem) :=
  bd (F_X7_undo fl v0 s) fun q1 =>
  xc q1 (fun e7 s4 =>
    if e7 = 2 then (
      some ((1 : Int32), s4))
    else
    none) fun x3 s4 =>
  bd (aLen v1 1) fun N8 =>
  gd (inR (0 : Int32) N8) <|
  nx (pL s4 v1 (0 : Int32).toNatClampNeg (Int32.toInt64 x3)) fun m11 =>
  some ((0 : Int32), m11)
def F_L_restore (fl : Nat) (v0 : Nat) (s : Mem) : Option (Int32 × Mem) :=
  bd (F_X7_restore fl v0 s) fun q1 =>
  xc q1 (fun e6 s3 =>
    if e6 = 2 then (
      some ((1 : Int32), s3))
    else
    none) fun u9 s3 =>
  some ((0 : Int32), s3)
