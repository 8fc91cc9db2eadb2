/-! printed: the worlds, and the methods as functions -/
def wdX8 (cI cZ cB : ClassId) (ad : Nat → Nat) (σ : Mem) : va_W := [(ad 0, .inr (6, [.ref (ad 1), .int (σ 0 1)])), (ad 1, .inl (cI, (200, .inl (σ 1))))]
def wdX6 (cI cZ cB : ClassId) (ad : Nat → Nat) (σ : Mem) : va_W := [(ad 0, .inr (4, [.ref (ad 1), .ref (ad 2), .int (σ 0 2)])), (ad 1, .inl (cI, (4, .inl (σ 1)))), (ad 2, .inl (cZ, (4, .inl (σ 2))))]
def wdX7 (cI cZ cB : ClassId) (ad : Nat → Nat) (σ : Mem) : va_W := [(ad 0, .inr (5, [.int (σ 0 0), .int (σ 0 1), .int (σ 0 2)]))]
def wdX4 (cI cZ cB : ClassId) (ad : Nat → Nat) (σ : Mem) : va_W := [(ad 0, .inr (3, [.int (σ 0 0), .int (σ 0 1), .int (σ 0 2), .int (σ 0 3), .ref (ad 1)])), (ad 1, .inr (6, [.ref (ad 2), .int (σ 1 1)])), (ad 2, .inl (cI, (200, .inl (σ 2))))]
def wdX3 (cI cZ cB : ClassId) (ad : Nat → Nat) (σ : Mem) : va_W := [(ad 0, .inr (2, [.ref (ad 1), .ref (ad 2), .ref (ad 3), .ref (ad 4), .ref (ad 5), .int (σ 0 5), .int (σ 0 6)])), (ad 1, .inl (cI, (80, .inl (σ 1)))), (ad 2, .inl (cI, (80, .inl (σ 2)))), (ad 3, .inl (cI, (80, .inl (σ 3)))), (ad 4, .inl (cZ, (80, .inl (σ 4)))), (ad 5, .inl (cI, (80, .inl (σ 5))))]
def wdX2 (cI cZ cB : ClassId) (ad : Nat → Nat) (σ : Mem) : va_W := [(ad 0, .inr (1, [.ref (ad 1), .ref (ad 2), .ref (ad 3), .ref (ad 4), .ref (ad 5), .int (σ 0 5)])), (ad 1, .inl (cI, ((σ 6 0).toNatClampNeg, .inl (σ 1)))), (ad 2, .inl (cI, ((σ 6 0).toNatClampNeg, .inl (σ 2)))), (ad 3, .inl (cI, ((σ 6 0).toNatClampNeg, .inl (σ 3)))), (ad 4, .inl (cI, ((σ 6 0).toNatClampNeg, .inl (σ 4)))), (ad 5, .inl (cI, (80, .inl (σ 5))))]
def wdX0 (cI cZ cB : ClassId) (ad : Nat → Nat) (σ : Mem) : va_W := [(ad 0, .inr (0, [.ref (ad 1), .ref (ad 2), .ref (ad 3), .int (σ 0 3), .int (σ 0 4)])), (ad 1, .inl (cI, (100, .inl (σ 1)))), (ad 2, .inl (cI, (100, .inl (σ 2)))), (ad 3, .inl (cI, (100, .inl (σ 3))))]
def wdX9 (cI cZ cB : ClassId) (ad : Nat → Nat) (σ : Mem) : va_W := [(ad 0, .inr (7, [.ref (ad 1), .ref (ad 3), .ref (ad 5), .ref (ad 8), .ref (ad 11), .ref (ad 12), .ref (ad 15), .ref (ad 21), .ref (ad 27), .ref (ad 31), .int (σ 0 10), .int (σ 0 11), .int (σ 0 12), .int (σ 0 13), .int (σ 0 14)])), (ad 1, .inr (6, [.ref (ad 2), .int (σ 1 1)])), (ad 2, .inl (cI, (200, .inl (σ 2)))), (ad 3, .inr (6, [.ref (ad 4), .int (σ 3 1)])), (ad 4, .inl (cI, (200, .inl (σ 4)))), (ad 5, .inr (4, [.ref (ad 6), .ref (ad 7), .int (σ 5 2)])), (ad 6, .inl (cI, (4, .inl (σ 6)))), (ad 7, .inl (cZ, (4, .inl (σ 7)))), (ad 8, .inr (4, [.ref (ad 9), .ref (ad 10), .int (σ 8 2)])), (ad 9, .inl (cI, (4, .inl (σ 9)))), (ad 10, .inl (cZ, (4, .inl (σ 10)))), (ad 11, .inr (5, [.int (σ 11 0), .int (σ 11 1), .int (σ 11 2)])), (ad 12, .inr (3, [.int (σ 12 0), .int (σ 12 1), .int (σ 12 2), .int (σ 12 3), .ref (ad 13)])), (ad 13, .inr (6, [.ref (ad 14), .int (σ 13 1)])), (ad 14, .inl (cI, (200, .inl (σ 14)))), (ad 15, .inr (2, [.ref (ad 16), .ref (ad 17), .ref (ad 18), .ref (ad 19), .ref (ad 20), .int (σ 15 5), .int (σ 15 6)])), (ad 16, .inl (cI, (80, .inl (σ 16)))), (ad 17, .inl (cI, (80, .inl (σ 17)))), (ad 18, .inl (cI, (80, .inl (σ 18)))), (ad 19, .inl (cZ, (80, .inl (σ 19)))), (ad 20, .inl (cI, (80, .inl (σ 20)))), (ad 21, .inr (1, [.ref (ad 22), .ref (ad 23), .ref (ad 24), .ref (ad 25), .ref (ad 26), .int (σ 21 5)])), (ad 22, .inl (cI, ((σ 32 0).toNatClampNeg, .inl (σ 22)))), (ad 23, .inl (cI, ((σ 32 0).toNatClampNeg, .inl (σ 23)))), (ad 24, .inl (cI, ((σ 32 0).toNatClampNeg, .inl (σ 24)))), (ad 25, .inl (cI, ((σ 32 0).toNatClampNeg, .inl (σ 25)))), (ad 26, .inl (cI, (80, .inl (σ 26)))), (ad 27, .inr (0, [.ref (ad 28), .ref (ad 29), .ref (ad 30), .int (σ 27 3), .int (σ 27 4)])), (ad 28, .inl (cI, (100, .inl (σ 28)))), (ad 29, .inl (cI, (100, .inl (σ 29)))), (ad 30, .inl (cI, (100, .inl (σ 30)))), (ad 31, .inl (cI, (4, .inl (σ 31))))]
def wdX7_X6_X8 (cI cZ cB : ClassId) (ad : Nat → Nat) (σ : Mem) : va_W := [(ad 0, .inr (5, [.int (σ 0 0), .int (σ 0 1), .int (σ 0 2)])), (ad 1, .inr (4, [.ref (ad 2), .ref (ad 3), .int (σ 1 2)])), (ad 2, .inl (cI, (4, .inl (σ 2)))), (ad 3, .inl (cZ, (4, .inl (σ 3)))), (ad 4, .inr (6, [.ref (ad 5), .int (σ 4 1)])), (ad 5, .inl (cI, (200, .inl (σ 5))))]
def wdX6_X6 (cI cZ cB : ClassId) (ad : Nat → Nat) (σ : Mem) : va_W := [(ad 0, .inr (4, [.ref (ad 1), .ref (ad 2), .int (σ 0 2)])), (ad 1, .inl (cI, (4, .inl (σ 1)))), (ad 2, .inl (cZ, (4, .inl (σ 2)))), (ad 3, .inr (4, [.ref (ad 4), .ref (ad 5), .int (σ 3 2)])), (ad 4, .inl (cI, (4, .inl (σ 4)))), (ad 5, .inl (cZ, (4, .inl (σ 5))))]
def wdX4_X8 (cI cZ cB : ClassId) (ad : Nat → Nat) (σ : Mem) : va_W := [(ad 0, .inr (3, [.int (σ 0 0), .int (σ 0 1), .int (σ 0 2), .int (σ 0 3), .ref (ad 1)])), (ad 1, .inr (6, [.ref (ad 2), .int (σ 1 1)])), (ad 2, .inl (cI, (200, .inl (σ 2)))), (ad 3, .inr (6, [.ref (ad 4), .int (σ 3 1)])), (ad 4, .inl (cI, (200, .inl (σ 4))))]
def wdX8_X8 (cI cZ cB : ClassId) (ad : Nat → Nat) (σ : Mem) : va_W := [(ad 0, .inr (6, [.ref (ad 1), .int (σ 0 1)])), (ad 1, .inl (cI, (200, .inl (σ 1)))), (ad 2, .inr (6, [.ref (ad 3), .int (σ 2 1)])), (ad 3, .inl (cI, (200, .inl (σ 3))))]
def wdX10 (cI cZ cB : ClassId) (ad : Nat → Nat) (w : Int64) (σ : Mem) : va_W := [(ad 0, .inr (8, [.int (σ 0 0), .ref (ad 1), .int (σ 0 2), .int (σ 0 3), .int (σ 0 4), .ref (ad 2), .ref (ad 3), .ref (ad 4), .ref (ad 5), .int (σ 0 9), .int (σ 0 10), .int (σ 0 11), .int (σ 0 12), .int (σ 0 13), .long w, .int (σ 0 15), .ref (ad 6), .ref (ad 7), .ref (ad 8), .ref (ad 9), .ref (ad 10), .int (σ 0 21), .ref (ad 11), .ref (ad 12), .ref (ad 13), .int (σ 0 25), .ref (ad 14), .ref (ad 15), .ref (ad 16), .int (σ 0 29), .ref (ad 17), .ref (ad 18), .int (σ 0 32), .ref (ad 19), .ref (ad 20), .int (σ 0 35), .int (σ 0 36), .int (σ 0 37), .ref (ad 21), .ref (ad 22), .int (σ 0 40), .int (σ 0 41)])), (ad 1, .inl (cB, (200, .inl (σ 1)))), (ad 2, .inl (cI, (4, .inl (σ 2)))), (ad 3, .inl (cI, (4, .inl (σ 3)))), (ad 4, .inl (cZ, (4, .inl (σ 4)))), (ad 5, .inl (cZ, (4, .inl (σ 5)))), (ad 6, .inl (cI, (80, .inl (σ 6)))), (ad 7, .inl (cI, (80, .inl (σ 7)))), (ad 8, .inl (cI, (80, .inl (σ 8)))), (ad 9, .inl (cI, (80, .inl (σ 9)))), (ad 10, .inl (cZ, (80, .inl (σ 10)))), (ad 11, .inl (cI, (165000, .inl (σ 11)))), (ad 12, .inl (cI, (165000, .inl (σ 12)))), (ad 13, .inl (cI, (165000, .inl (σ 13)))), (ad 14, .inl (cI, (100, .inl (σ 14)))), (ad 15, .inl (cI, (100, .inl (σ 15)))), (ad 16, .inl (cI, (100, .inl (σ 16)))), (ad 17, .inl (cI, (4, .inl (σ 17)))), (ad 18, .inl (cB, (100, .inl (σ 18)))), (ad 19, .inl (cI, (12, .inl (σ 19)))), (ad 20, .inl (cI, (12, .inl (σ 20)))), (ad 21, .inl (cB, (100, .inl (σ 21)))), (ad 22, .inl (cI, (4, .inl (σ 22))))]
def X8_put (a1 : Int32) (σ : Mem) : Option (Mem) :=
  if 200 ≤ (σ 0 1) then
    some (σ)
  else
    gd (σ 0 1) 200 <|
    lt (up σ 1 (Int32.toNatClampNeg (σ 0 1)) a1) fun σ3 =>
    lt (up σ3 0 1 ((σ3 0 1) + 1)) fun σ4 =>
    some (σ4)
def X8_putFour (a1 : Int32) (σ : Mem) : Option (Mem) :=
  bd (X8_put (UInt32.toInt32 (Int32.toUInt32 a1 >>> (Int32.toUInt32 24 &&& Int32.toUInt32 31))) σ) fun r1 =>
  lt (r1) fun σ2 =>
  bd (X8_put ((UInt32.toInt32 (Int32.toUInt32 a1 >>> (Int32.toUInt32 16 &&& Int32.toUInt32 31))) &&& 255) σ2) fun r3 =>
  lt (r3) fun σ4 =>
  bd (X8_put ((UInt32.toInt32 (Int32.toUInt32 a1 >>> (Int32.toUInt32 8 &&& Int32.toUInt32 31))) &&& 255) σ4) fun r5 =>
  lt (r5) fun σ6 =>
  bd (X8_put (a1 &&& 255) σ6) fun r7 =>
  lt (r7) fun σ8 =>
  some (σ8)
def X9_feed (a1 : Int32) (a2 : Int32) (a3 : Int32) (a4 : Int32) (a5 : Int32) (σ : Mem) : Option (Int32 × Mem) :=
  if ((σ 1 1) + 20) ≤ 200 then
    bd (X8_putFour a1 (mp σ [1, 2])) fun r2 =>
    lt (mg σ [1, 2] r2) fun σ3 =>
    bd (X8_putFour a2 (mp σ3 [1, 2])) fun r4 =>
    lt (mg σ3 [1, 2] r4) fun σ5 =>
    bd (X8_putFour a3 (mp σ5 [1, 2])) fun r6 =>
    lt (mg σ5 [1, 2] r6) fun σ7 =>
    bd (X8_putFour a4 (mp σ7 [1, 2])) fun r8 =>
    lt (mg σ7 [1, 2] r8) fun σ9 =>
    bd (X8_putFour a5 (mp σ9 [1, 2])) fun r10 =>
    lt (mg σ9 [1, 2] r10) fun σ11 =>
    some (σ11 1 1, σ11)
  else
    some ((-1), σ)
def X8_byteAt (a1 : Int32) (σ : Mem) : Option (Int32) :=
  if a1 < 0 then
    some ((-1))
  else
    if (σ 0 1) ≤ a1 then
      some ((-1))
    else
      if 200 ≤ a1 then
        some ((-1))
      else
        gd a1 200 <|
        some (σ 1 (Int32.toNatClampNeg a1))
def X6_become_2 : Nat → Int32 → Mem → Option (Mem)
  | 0, _, _ => none
  | n + 1, x2, σ => if 4 ≤ x2 then
        lt (up σ 0 2 (σ 3 2)) fun σ2 =>
        some (σ2)
      else
        gd x2 4 <|
        gd x2 4 <|
        lt (up σ 1 (Int32.toNatClampNeg x2) (σ 4 (Int32.toNatClampNeg x2))) fun σ5 =>
        gd x2 4 <|
        gd x2 4 <|
        lt (up σ5 2 (Int32.toNatClampNeg x2) (vp_nar .boolean (σ5 5 (Int32.toNatClampNeg x2)))) fun σ8 =>
        lt (x2 + 1) fun x2_9 =>
        X6_become_2 n x2_9 σ8
def X6_become (σ : Mem) : Option (Mem) :=
  X6_become_2 FU 0 σ
def X3_has (a1 : Int32) (σ : Mem) : Option (Int32) :=
  if a1 < 0 then
    some (0)
  else
    if (σ 0 5) ≤ a1 then
      some (0)
    else
      some (1)
def X3_placeOf_2 (a1 : Int32) (σ : Mem) : Nat → Int32 → Option (Int32)
  | 0, _ => none
  | n + 1, x2 => if (σ 0 5) ≤ x2 then
        some ((-1))
      else
        gd x2 80 <|
        if (σ 5 (Int32.toNatClampNeg x2)) = a1 then
          some (x2)
        else
          lt (x2 + 1) fun x2_4 =>
          X3_placeOf_2 a1 σ n x2_4
def X3_placeOf (a1 : Int32) (σ : Mem) : Option (Int32) :=
  X3_placeOf_2 a1 σ FU 0
def X3_isInRow (a1 : Int32) (a2 : Int32) (a3 : Int32) (a4 : Int32) (σ : Mem) : Option (Int32) :=
  bd (X3_has a1 σ) fun r1 =>
  if r1 = 0 then
    some (0)
  else
    gd a1 80 <|
    if (σ 1 (Int32.toNatClampNeg a1)) = a2 then
      if a4 = 0 then
        gd a1 80 <|
        if (σ 2 (Int32.toNatClampNeg a1)) = a3 then
          some (1)
        else
          some (0)
      else
        some (1)
    else
      some (0)
def X3_placeInRow_12 (a1 : Int32) (a2 : Int32) (σ : Mem) : Nat → Int32 → Int32 → Int32 → Option (Int32)
  | 0, _, _, _ => none
  | n + 1, x3, x4, x5 => if x4 ≤ x5 then
        some (x3)
      else
        gd x5 80 <|
        gd a1 80 <|
        gd a1 80 <|
        bd (X3_isInRow (σ 5 (Int32.toNatClampNeg x5)) (σ 1 (Int32.toNatClampNeg a1)) (σ 2 (Int32.toNatClampNeg a1)) a2 σ) fun r5 =>
        if r5 = 0 then
          lt (x5 + 1) fun x5_7 =>
          X3_placeInRow_12 a1 a2 σ n x3 x4 x5_7
        else
          lt (x3 + 1) fun x3_8 =>
          lt (x5 + 1) fun x5_9 =>
          X3_placeInRow_12 a1 a2 σ n x3_8 x4 x5_9
def X3_placeInRow (a1 : Int32) (a2 : Int32) (σ : Mem) : Option (Int32) :=
  bd (X3_placeOf a1 σ) fun r10 =>
  X3_placeInRow_12 a1 a2 σ FU 0 r10 0
def X8_isPart_15 (a1 : Int32) (a2 : Int32) (σ : Mem) : Nat → Int32 → Option (Int32)
  | 0, _ => none
  | n + 1, x4 => if (σ 2 1) ≤ x4 then
        some (1)
      else
        bd (X8_byteAt (a1 + x4) (mp σ [0, 1])) fun r2 =>
        bd (X8_byteAt x4 (mp σ [2, 3])) fun r3 =>
        if r2 = r3 then
          lt (x4 + 1) fun x4_5 =>
          X8_isPart_15 a1 a2 σ n x4_5
        else
          some (0)
def X8_isPart (a1 : Int32) (a2 : Int32) (σ : Mem) : Option (Int32) :=
  if (a2 - a1) = (σ 2 1) then
    X8_isPart_15 a1 a2 σ FU 0
  else
    some (0)
