/-! printed: the methods as functions -/
def J7_fill_53178_5 (a1 : Int32) : Nat → Int32 → Int32 → Mem → Option (Mem)
  | 0, _, _, _ => none
  | n + 1, x2, x3, σ => if x3 ≤ x2 then
        some (σ)
      else
        gd x2 80 <|
        lt (up σ 0 (Int32.toNatClampNeg x2) a1) fun σ3 =>
        lt (x2 + 1) fun x2_4 =>
        J7_fill_53178_5 a1 n x2_4 x3 σ3
def J7_fill_53178 (a1 : Int32) (σ : Mem) : Option (Mem) :=
  J7_fill_53178_5 a1 FU 0 80 σ
def X8_put (a1 : Int32) (σ : Mem) : Option (Mem) :=
  if 200 ≤ (σ 0 1) then
    some (σ)
  else
    gd (σ 0 1) 200 <|
    lt (up σ 1 (Int32.toNatClampNeg (σ 0 1)) a1) fun σ3 =>
    lt (up σ3 0 1 ((σ3 0 1) + 1)) fun σ4 =>
    some (σ4)
def X8_putFour (a1 : Int32) (σ : Mem) : Option (Mem) :=
  bd (X8_put (UInt32.toInt32 (Int32.toUInt32 a1 >>> (Int32.toUInt32 24 &&& Int32.toUInt32 31))) σ) fun r1 =>
  lt (r1) fun σ2 =>
  bd (X8_put ((UInt32.toInt32 (Int32.toUInt32 a1 >>> (Int32.toUInt32 16 &&& Int32.toUInt32 31))) &&& 255) σ2) fun r3 =>
  lt (r3) fun σ4 =>
  bd (X8_put ((UInt32.toInt32 (Int32.toUInt32 a1 >>> (Int32.toUInt32 8 &&& Int32.toUInt32 31))) &&& 255) σ4) fun r5 =>
  lt (r5) fun σ6 =>
  bd (X8_put (a1 &&& 255) σ6) fun r7 =>
  lt (r7) fun σ8 =>
  some (σ8)
def X9_feed (a1 : Int32) (a2 : Int32) (a3 : Int32) (a4 : Int32) (a5 : Int32) (σ : Mem) : Option (Int32 × Mem) :=
  if ((σ 1 1) + 20) ≤ 200 then
    bd (X8_putFour a1 (mp σ [1, 2])) fun r2 =>
    lt (mg σ [1, 2] r2) fun σ3 =>
    bd (X8_putFour a2 (mp σ3 [1, 2])) fun r4 =>
    lt (mg σ3 [1, 2] r4) fun σ5 =>
    bd (X8_putFour a3 (mp σ5 [1, 2])) fun r6 =>
    lt (mg σ5 [1, 2] r6) fun σ7 =>
    bd (X8_putFour a4 (mp σ7 [1, 2])) fun r8 =>
    lt (mg σ7 [1, 2] r8) fun σ9 =>
    bd (X8_putFour a5 (mp σ9 [1, 2])) fun r10 =>
    lt (mg σ9 [1, 2] r10) fun σ11 =>
    some (σ11 1 1, σ11)
  else
    some ((-1), σ)
def X9_end (a1 : Int32) (σ : Mem) : Option (Int32 × Mem) :=
  if a1 < 0 then
    some (0, σ)
  else
    if a1 ≤ (σ 1 1) then
      lt (up σ 1 1 a1) fun σ3 =>
      some (1, σ3)
    else
      some (0, σ)
def X8_byteAt (a1 : Int32) (σ : Mem) : Option (Int32) :=
  if a1 < 0 then
    some ((-1))
  else
    if (σ 0 1) ≤ a1 then
      some ((-1))
    else
      if 200 ≤ a1 then
        some ((-1))
      else
        gd a1 200 <|
        some (σ 1 (Int32.toNatClampNeg a1))
def X7_failAt (a1 : Int32) (a2 : Int32) (σ : Mem) : Option (Mem) :=
  lt (up σ 0 0 a2) fun σ1 =>
  lt (up σ1 0 1 a1) fun σ2 =>
  some (σ2)
def X7_takeSemicolon_13 (a1 : Int32) (σ : Mem) : Option (Mem) := lt (up σ 0 2 0) fun σ1 =>
    some (σ1)
def X7_takeSemicolon (a1 : Int32) (σ : Mem) : Option (Mem) :=
  if (σ 0 2) = 0 then
    bd (X7_failAt a1 2 σ) fun r3 =>
    lt (r3) fun σ4 =>
    X7_takeSemicolon_13 a1 σ4
  else
    X7_takeSemicolon_13 a1 σ
def X7_isSmallLetter (a0 : Int32) : Option (Int32) :=
  if a0 < 97 then
    some (0)
  else
    if 122 < a0 then
      some (0)
    else
      some (1)
def X7_wordEnd_4 (a1 : Int32) (σ : Mem) : Nat → Int32 → Option (Int32)
  | 0, _ => none
  | n + 1, x2 => if (σ 0 1) ≤ x2 then
        some (x2)
      else
        bd (X8_byteAt x2 σ) fun r2 =>
        bd (X7_isSmallLetter r2) fun r3 =>
        if r3 = 0 then
          some (x2)
        else
          lt (x2 + 1) fun x2_5 =>
          X7_wordEnd_4 a1 σ n x2_5
def X7_wordEnd (a1 : Int32) (σ : Mem) : Option (Int32) :=
  lt (a1 + 1) fun x2_6 =>
  X7_wordEnd_4 a1 σ FU x2_6
def X8_isWord_15 (a1 : Int32) (a2 : Int32) (i3 : Nat) (σ : Mem) : Nat → Int32 → Option (Int32)
  | 0, _ => none
  | n + 1, x4 => if (nI (sLen i3)) ≤ x4 then
        some (1)
      else
        bd (X8_byteAt (a1 + x4) σ) fun r2 =>
        gd x4 (sLen i3) <|
        if r2 = (sCh i3 (Int32.toNatClampNeg x4)) then
          lt (x4 + 1) fun x4_5 =>
          X8_isWord_15 a1 a2 i3 σ n x4_5
        else
          some (0)
def X8_isWord (a1 : Int32) (a2 : Int32) (i3 : Nat) (σ : Mem) : Option (Int32) :=
  if (a2 - a1) = (nI (sLen i3)) then
    X8_isWord_15 a1 a2 i3 σ FU 0
  else
    some (0)
def X6_makeLastThrough (σ : Mem) : Option (Mem) :=
  if (σ 0 2) ≤ 0 then
    some (σ)
  else
    gd ((σ 0 2) - 1) 4 <|
    lt (up σ 2 (Int32.toNatClampNeg ((σ 0 2) - 1)) (vp_nar .boolean 1)) fun σ3 =>
    some (σ3)
def X7_formNamed (a1 : Int32) (a2 : Int32) (σ : Mem) : Option (Int32) :=
  bd (X8_isWord a1 a2 1 σ) fun r1 =>
  if r1 = 0 then
    bd (X8_isWord a1 a2 2 σ) fun r3 =>
    if r3 = 0 then
      bd (X8_isWord a1 a2 3 σ) fun r5 =>
      if r5 = 0 then
        bd (X8_isWord a1 a2 4 σ) fun r7 =>
        if r7 = 0 then
          some ((-1))
        else
          some (3)
      else
        some (2)
    else
      some (1)
  else
    some (0)
def X6_append (a1 : Int32) (σ : Mem) : Option (Mem) :=
  if 4 ≤ (σ 0 2) then
    some (σ)
  else
    gd (σ 0 2) 4 <|
    lt (up σ 1 (Int32.toNatClampNeg (σ 0 2)) a1) fun σ3 =>
    gd (σ3 0 2) 4 <|
    lt (up σ3 2 (Int32.toNatClampNeg (σ3 0 2)) (vp_nar .boolean 0)) fun σ5 =>
    lt (up σ5 0 2 ((σ5 0 2) + 1)) fun σ6 =>
    some (σ6)
def X7_takeWord_52 (a3 : Int32) (a4 : Int32) (σ : Mem) : Option (Mem) := bd (X7_failAt a3 2 (mp σ [0])) fun r1 =>
    lt (mg σ [0] r1) fun σ2 =>
    some (σ2)
def X7_takeWord_30 (a3 : Int32) (a4 : Int32) (σ : Mem) : Option (Mem) := bd (X7_formNamed a3 a4 (mp σ [4, 5])) fun r3 =>
    if (σ 0 2) = 0 then
      if r3 = (-1) then
        X7_takeWord_52 a3 a4 σ
      else
        if (σ 1 2) = 4 then
          bd (X7_failAt a3 3 (mp σ [0])) fun r10 =>
          lt (mg σ [0] r10) fun σ11 =>
          some (σ11)
        else
          bd (X6_append r3 (mp σ [1, 2, 3])) fun r7 =>
          lt (mg σ [1, 2, 3] r7) fun σ8 =>
          lt (up σ8 0 2 1) fun σ9 =>
          some (σ9)
    else
      X7_takeWord_52 a3 a4 σ
def X7_takeWord (a3 : Int32) (a4 : Int32) (σ : Mem) : Option (Mem) :=
  if (σ 0 2) = 1 then
    bd (X8_isWord a3 a4 0 (mp σ [4, 5])) fun r13 =>
    if r13 = 0 then
      X7_takeWord_30 a3 a4 σ
    else
      bd (X6_makeLastThrough (mp σ [1, 2, 3])) fun r15 =>
      lt (mg σ [1, 2, 3] r15) fun σ16 =>
      lt (up σ16 0 2 2) fun σ17 =>
      some (σ17)
  else
    X7_takeWord_30 a3 a4 σ
def X7_readInto_142 (σ : Mem) : Option (Mem) := bd (X7_failAt (σ 4 1) 2 (mp σ [0])) fun r1 =>
    lt (mg σ [0] r1) fun σ2 =>
    some (σ2)
def X7_readInto_121 (σ : Mem) : Option (Mem) := if (σ 0 0) = 0 then
      if (σ 0 2) = 0 then
        if (σ 1 2) = 0 then
          X7_readInto_142 σ
        else
          some (σ)
      else
        X7_readInto_142 σ
    else
      some (σ)
def X7_readInto_22 : Nat → Int32 → Mem → Option (Mem)
  | 0, _, _ => none
  | n + 1, x3, σ => if (σ 4 1) ≤ x3 then
        X7_readInto_121 σ
      else
        if (σ 0 0) = 0 then
          bd (X8_byteAt x3 (mp σ [4, 5])) fun r8 =>
          if r8 = 32 then
            lt (x3 + 1) fun x3_10 =>
            X7_readInto_22 n x3_10 σ
          else
            if r8 = 10 then
              lt (x3 + 1) fun x3_23 =>
              X7_readInto_22 n x3_23 σ
            else
              if r8 = 59 then
                bd (X7_takeSemicolon x3 (mp σ [0])) fun r20 =>
                lt (mg σ [0] r20) fun σ21 =>
                lt (x3 + 1) fun x3_22 =>
                X7_readInto_22 n x3_22 σ21
              else
                bd (X7_isSmallLetter r8) fun r13 =>
                if r13 = 0 then
                  bd (X7_failAt x3 1 (mp σ [0])) fun r15 =>
                  lt (mg σ [0] r15) fun σ16 =>
                  X7_readInto_22 n x3 σ16
                else
                  bd (X7_wordEnd x3 (mp σ [4, 5])) fun r17 =>
                  bd (X7_takeWord x3 r17 σ) fun r18 =>
                  lt (r18) fun σ19 =>
                  X7_readInto_22 n r17 σ19
        else
          X7_readInto_121 σ
def X7_readInto (σ : Mem) : Option (Mem) :=
  lt (up σ 1 2 0) fun σ24 =>
  lt (up σ24 0 0 0) fun σ25 =>
  lt (up σ25 0 1 (-1)) fun σ26 =>
  lt (up σ26 0 2 0) fun σ27 =>
  X7_readInto_22 FU 0 σ27
def X6_become_2 : Nat → Int32 → Mem → Option (Mem)
  | 0, _, _ => none
  | n + 1, x2, σ => if 4 ≤ x2 then
        lt (up σ 0 2 (σ 3 2)) fun σ2 =>
        some (σ2)
      else
        gd x2 4 <|
        gd x2 4 <|
        lt (up σ 1 (Int32.toNatClampNeg x2) (σ 4 (Int32.toNatClampNeg x2))) fun σ5 =>
        gd x2 4 <|
        gd x2 4 <|
        lt (up σ5 2 (Int32.toNatClampNeg x2) (vp_nar .boolean (σ5 5 (Int32.toNatClampNeg x2)))) fun σ8 =>
        lt (x2 + 1) fun x2_9 =>
        X6_become_2 n x2_9 σ8
def X6_become (σ : Mem) : Option (Mem) :=
  X6_become_2 FU 0 σ
def X3_clear (σ : Mem) : Option (Mem) :=
  lt (up σ 0 5 0) fun σ1 =>
  lt (up σ1 0 6 0) fun σ2 =>
  some (σ2)
def X2_clear (σ : Mem) : Option (Mem) :=
  bd (J7_fill_53178 (-1) (mp σ [5])) fun r1 =>
  lt (mg σ [5] r1) fun σ2 =>
  lt (up σ2 0 5 0) fun σ3 =>
  some (σ3)
def X0_clear (σ : Mem) : Option (Mem) :=
  lt (up σ 0 3 0) fun σ1 =>
  lt (up σ1 0 4 0) fun σ2 =>
  some (σ2)
def X9_levels (σ : Mem) : Option (Int32 × Mem) :=
  bd (X7_readInto (mp σ [11, 8, 9, 10, 1, 2])) fun r1 =>
  lt (mg σ [11, 8, 9, 10, 1, 2] r1) fun σ2 =>
  lt (up σ2 1 1 0) fun σ3 =>
  lt (up σ3 0 11 (σ3 11 0)) fun σ4 =>
  lt (up σ4 0 12 (σ4 11 1)) fun σ5 =>
  if (σ5 0 11) = 0 then
    bd (X6_become (mp σ5 [5, 6, 7, 8, 9, 10])) fun r7 =>
    lt (mg σ5 [5, 6, 7, 8, 9, 10] r7) fun σ8 =>
    bd (X3_clear (mp σ8 [15, 16, 17, 18, 19, 20])) fun r9 =>
    lt (mg σ8 [15, 16, 17, 18, 19, 20] r9) fun σ10 =>
    bd (X2_clear (mp σ10 [21, 22, 23, 24, 25, 26, 32])) fun r11 =>
    lt (mg σ10 [21, 22, 23, 24, 25, 26, 32] r11) fun σ12 =>
    bd (X0_clear (mp σ12 [27, 28, 29, 30])) fun r13 =>
    lt (mg σ12 [27, 28, 29, 30] r13) fun σ14 =>
    lt (up σ14 0 10 0) fun σ15 =>
    some (σ15 5 2, σ15)
  else
    some ((-1) - (σ5 0 12), σ5)
def X9_fault (σ : Mem) : Option (Int32) :=
  some (σ 0 11)
def X3_has (a1 : Int32) (σ : Mem) : Option (Int32) :=
  if a1 < 0 then
    some (0)
  else
    if (σ 0 5) ≤ a1 then
      some (0)
    else
      some (1)
def X9_isPlaceTold_39 (a1 : Int32) (a2 : Int32) (σ : Mem) : Option (Int32) := if a2 = (-1) then
      some (1)
    else
      bd (X3_has a2 (mp σ [15, 16, 17, 18, 19, 20])) fun r2 =>
      if r2 = 0 then
        some (0)
      else
        gd a2 80 <|
        if (σ 17 (Int32.toNatClampNeg a2)) = a1 then
          some (1)
        else
          some (0)
def X9_isPlaceTold (a1 : Int32) (a2 : Int32) (σ : Mem) : Option (Int32) :=
  if a1 = (-1) then
    X9_isPlaceTold_39 a1 a2 σ
  else
    bd (X3_has a1 (mp σ [15, 16, 17, 18, 19, 20])) fun r7 =>
    if r7 = 0 then
      some (0)
    else
      gd a1 80 <|
      if ((σ 16 (Int32.toNatClampNeg a1)) + 1) < (σ 5 2) then
        X9_isPlaceTold_39 a1 a2 σ
      else
        some (0)
def X3_placeOf_2 (a1 : Int32) (σ : Mem) : Nat → Int32 → Option (Int32)
  | 0, _ => none
  | n + 1, x2 => if (σ 0 5) ≤ x2 then
        some ((-1))
      else
        gd x2 80 <|
        if (σ 5 (Int32.toNatClampNeg x2)) = a1 then
          some (x2)
        else
          lt (x2 + 1) fun x2_4 =>
          X3_placeOf_2 a1 σ n x2_4
def X3_placeOf (a1 : Int32) (σ : Mem) : Option (Int32) :=
  X3_placeOf_2 a1 σ FU 0
def X3_placeBehind_8 (a1 : Int32) (σ : Mem) : Nat → Int32 → Option (Int32)
  | 0, _ => none
  | n + 1, x2 => if (σ 0 5) ≤ x2 then
        some (x2)
      else
        gd x2 80 <|
        gd (σ 5 (Int32.toNatClampNeg x2)) 80 <|
        gd a1 80 <|
        if (σ 1 (Int32.toNatClampNeg (σ 5 (Int32.toNatClampNeg x2)))) ≤ (σ 1 (Int32.toNatClampNeg a1)) then
          some (x2)
        else
          lt (x2 + 1) fun x2_6 =>
          X3_placeBehind_8 a1 σ n x2_6
def X3_placeBehind (a1 : Int32) (σ : Mem) : Option (Int32) :=
  bd (X3_placeOf a1 σ) fun r7 =>
  lt (r7 + 1) fun x2_8 =>
  X3_placeBehind_8 a1 σ FU x2_8
def X9_placeOfNew (a1 : Int32) (a2 : Int32) (σ : Mem) : Option (Int32) :=
  if a2 = (-1) then
    if a1 = (-1) then
      some (0)
    else
      bd (X3_placeOf a1 (mp σ [15, 16, 17, 18, 19, 20])) fun r3 =>
      some (r3 + 1)
  else
    bd (X3_placeBehind a2 (mp σ [15, 16, 17, 18, 19, 20])) fun r4 =>
    some (r4)
def X6_isThrough (a1 : Int32) (σ : Mem) : Option (Int32) :=
  if a1 < 0 then
    some (0)
  else
    if (σ 0 2) ≤ a1 then
      some (0)
    else
      gd a1 4 <|
      if (σ 2 (Int32.toNatClampNeg a1)) = 0 then
        some (0)
      else
        some (1)
def X3_isInRow (a1 : Int32) (a2 : Int32) (a3 : Int32) (a4 : Int32) (σ : Mem) : Option (Int32) :=
  bd (X3_has a1 σ) fun r1 =>
  if r1 = 0 then
    some (0)
  else
    gd a1 80 <|
    if (σ 1 (Int32.toNatClampNeg a1)) = a2 then
      if a4 = 0 then
        gd a1 80 <|
        if (σ 2 (Int32.toNatClampNeg a1)) = a3 then
          some (1)
        else
          some (0)
      else
        some (1)
    else
      some (0)
def X2_latest (a1 : Int32) (σ : Mem) : Option (Int32) :=
  if a1 < 0 then
    some (0)
  else
    if 80 ≤ a1 then
      some (0)
    else
      gd a1 80 <|
      if (σ 5 (Int32.toNatClampNeg a1)) < 0 then
        some (0)
      else
        gd a1 80 <|
        gd (σ 5 (Int32.toNatClampNeg a1)) (σ 6 0).toNatClampNeg <|
        some (σ 3 (Int32.toNatClampNeg (σ 5 (Int32.toNatClampNeg a1))))
def X9_labelAhead_5 (a1 : Int32) (a2 : Int32) (a3 : Int32) (a4 : Int32) (σ : Mem) : Nat → Int32 → Option (Int32)
  | 0, _ => none
  | n + 1, x5 => if x5 < 0 then
        some (0)
      else
        gd x5 80 <|
        lt (σ 20 (Int32.toNatClampNeg x5)) fun x6_3 =>
        bd (X3_isInRow x6_3 a2 a3 a4 (mp σ [15, 16, 17, 18, 19, 20])) fun r4 =>
        if r4 = 0 then
          lt (x5 + (-1)) fun x5_6 =>
          X9_labelAhead_5 a1 a2 a3 a4 σ n x5_6
        else
          bd (X2_latest x6_3 (mp σ [21, 22, 23, 24, 25, 26, 32])) fun r7 =>
          if r7 = 0 then
            lt (x5 + (-1)) fun x5_9 =>
            X9_labelAhead_5 a1 a2 a3 a4 σ n x5_9
          else
            bd (X2_latest x6_3 (mp σ [21, 22, 23, 24, 25, 26, 32])) fun r10 =>
            some (r10)
def X9_labelAhead (a1 : Int32) (a2 : Int32) (a3 : Int32) (a4 : Int32) (σ : Mem) : Option (Int32) :=
  lt (a1 - 1) fun x5_11 =>
  X9_labelAhead_5 a1 a2 a3 a4 σ FU x5_11
def X9_labelFrom_3 (a1 : Int32) (a2 : Int32) (a3 : Int32) (a4 : Int32) (σ : Mem) : Nat → Int32 → Option (Int32)
  | 0, _ => none
  | n + 1, x5 => if (σ 15 5) ≤ x5 then
        some (0)
      else
        gd x5 80 <|
        lt (σ 20 (Int32.toNatClampNeg x5)) fun x6_3 =>
        bd (X3_isInRow x6_3 a2 a3 a4 (mp σ [15, 16, 17, 18, 19, 20])) fun r4 =>
        if r4 = 0 then
          lt (x5 + 1) fun x5_6 =>
          X9_labelFrom_3 a1 a2 a3 a4 σ n x5_6
        else
          bd (X2_latest x6_3 (mp σ [21, 22, 23, 24, 25, 26, 32])) fun r7 =>
          if r7 = 0 then
            lt (x5 + 1) fun x5_9 =>
            X9_labelFrom_3 a1 a2 a3 a4 σ n x5_9
          else
            bd (X2_latest x6_3 (mp σ [21, 22, 23, 24, 25, 26, 32])) fun r10 =>
            some (r10)
def X9_labelFrom (a1 : Int32) (a2 : Int32) (a3 : Int32) (a4 : Int32) (σ : Mem) : Option (Int32) :=
  X9_labelFrom_3 a1 a2 a3 a4 σ FU a1
def X5_numberOf (a0 : Int32) : Option (Int32) :=
  some (a0 >>> (20 &&& 31))
def X5_plain (a0 : Int32) : Option (Int32) :=
  if a0 < 1 then
    some (0)
  else
    if a0 ≤ 999 then
      some (a0 <<< (20 &&& 31))
    else
      some (0)
def X5_letterOf (a0 : Int32) (a1 : Int32) : Option (Int32) :=
  some ((a0 >>> ((20 - (5 * (a1 + 1))) &&& 31)) &&& 31)
def X5_lettersIn_2 (a0 : Int32) : Nat → Int32 → Option (Int32)
  | 0, _ => none
  | n + 1, x1 => if 4 ≤ x1 then
        some (x1)
      else
        bd (X5_letterOf a0 x1) fun r2 =>
        if r2 = 0 then
          some (x1)
        else
          lt (x1 + 1) fun x1_4 =>
          X5_lettersIn_2 a0 n x1_4
def X5_lettersIn (a0 : Int32) : Option (Int32) :=
  X5_lettersIn_2 a0 FU 0
def X5_setLetter (a0 : Int32) (a1 : Int32) (a2 : Int32) : Option (Int32) :=
  lt (20 - (5 * (a1 + 1))) fun x3_1 =>
  some ((a0 &&& ((31 <<< (x3_1 &&& 31)) ^^^ (-1))) ||| (a2 <<< (x3_1 &&& 31)))
def X5_fillWithA_5 (a0 : Int32) (a1 : Int32) (a2 : Int32) : Nat → Int32 → Int32 → Option (Int32)
  | 0, _, _ => none
  | n + 1, x3, x4 => if a2 ≤ x4 then
        some (x3)
      else
        bd (X5_setLetter x3 x4 1) fun r2 =>
        lt (x4 + 1) fun x4_3 =>
        X5_fillWithA_5 a0 a1 a2 n r2 x4_3
def X5_fillWithA (a0 : Int32) (a1 : Int32) (a2 : Int32) : Option (Int32) :=
  X5_fillWithA_5 a0 a1 a2 FU a0 a1
def X5_leastAbove_61 (a0 : Int32) (a1 : Int32) : Nat → Int32 → Int32 → Option (Int32)
  | 0, _, _ => none
  | n + 1, x3, x4 => if x4 < 0 then
        bd (X5_numberOf a0) fun r2 =>
        bd (X5_plain (r2 + 1)) fun r3 =>
        if r3 = 0 then
          some (0)
        else
          bd (X5_fillWithA r3 0 a1) fun r5 =>
          some (r5)
      else
        bd (X5_letterOf x3 x4) fun r6 =>
        if 26 ≤ r6 then
          lt (x4 + (-1)) fun x4_8 =>
          X5_leastAbove_61 a0 a1 n x3 x4_8
        else
          bd (X5_setLetter x3 x4 (r6 + 1)) fun r9 =>
          bd (X5_fillWithA r9 (x4 + 1) a1) fun r10 =>
          some (r10)
def X5_leastAbove_36 (a0 : Int32) (a1 : Int32) : Nat → Int32 → Int32 → Option (Int32)
  | 0, _, _ => none
  | n + 1, x3, x4 => if 4 ≤ x4 then
        lt (a1 - 1) fun x4_12 =>
        X5_leastAbove_61 a0 a1 FU x3 x4_12
      else
        bd (X5_setLetter x3 x4 0) fun r13 =>
        lt (x4 + 1) fun x4_14 =>
        X5_leastAbove_36 a0 a1 n r13 x4_14
def X5_leastAbove (a0 : Int32) (a1 : Int32) : Option (Int32) :=
  bd (X5_lettersIn a0) fun r15 =>
  if a0 = 0 then
    bd (X5_plain 1) fun r19 =>
    bd (X5_fillWithA r19 0 a1) fun r20 =>
    some (r20)
  else
    if a1 ≤ r15 then
      X5_leastAbove_36 a0 a1 FU a0 a1
    else
      bd (X5_fillWithA a0 r15 a1) fun r18 =>
      some (r18)
def X5_between_16 (a0 : Int32) (a1 : Int32) : Nat → Int32 → Option (Int32)
  | 0, _ => none
  | n + 1, x2 => if 4 < x2 then
        some (0)
      else
        bd (X5_leastAbove a0 x2) fun r2 =>
        if r2 = 0 then
          lt (x2 + 1) fun x2_4 =>
          X5_between_16 a0 a1 n x2_4
        else
          if a1 ≤ r2 then
            lt (x2 + 1) fun x2_6 =>
            X5_between_16 a0 a1 n x2_6
          else
            some (r2)
def X5_between (a0 : Int32) (a1 : Int32) : Option (Int32) :=
  if a1 = 0 then
    bd (X5_numberOf a0) fun r8 =>
    bd (X5_plain (r8 + 1)) fun r9 =>
    some (r9)
  else
    X5_between_16 a0 a1 FU 0
def X0_open_52 (a1 : Int32) (a2 : Int32) (a3 : Int32) (y1 : Int32) (σ : Mem) : Option (Mem) := lt (up σ 0 3 y1) fun σ1 =>
    lt (up σ1 0 4 (if 100 < ((σ1 0 4) + 1) then 100 else (σ1 0 4) + 1)) fun σ2 =>
    some (σ2)
def X0_open (a1 : Int32) (a2 : Int32) (a3 : Int32) (σ : Mem) : Option (Mem) :=
  gd (σ 0 3) 100 <|
  lt (up σ 1 (Int32.toNatClampNeg (σ 0 3)) a1) fun σ4 =>
  gd (σ4 0 3) 100 <|
  lt (up σ4 2 (Int32.toNatClampNeg (σ4 0 3)) a2) fun σ6 =>
  gd (σ6 0 3) 100 <|
  lt (up σ6 3 (Int32.toNatClampNeg (σ6 0 3)) a3) fun σ8 =>
  if 100 ≤ ((σ8 0 3) + 1) then
    X0_open_52 a1 a2 a3 0 σ8
  else
    X0_open_52 a1 a2 a3 ((σ8 0 3) + 1) σ8
def X3_insert (a1 : Int32) (a2 : Int32) (a3 : Int32) (a4 : Int32) (σ : Mem) : Option (Mem) :=
  if 80 ≤ (σ 0 5) then
    some (σ)
  else
    if a1 < 0 then
      some (σ)
    else
      if a1 ≤ (σ 0 5) then
        gp ((¬ a1 < 0 ∧ ¬ (a1 + 1) < 0 ∧ ¬ ((σ 0 5) - a1) < 0) ∧ (Int32.toNatClampNeg a1) + (Int32.toNatClampNeg ((σ 0 5) - a1)) ≤ 80 ∧ (Int32.toNatClampNeg (a1 + 1)) + (Int32.toNatClampNeg ((σ 0 5) - a1)) ≤ 80) <|
        lt (upc σ 5 (va_cpy (σ 5) (σ 5) (Int32.toNatClampNeg a1) (Int32.toNatClampNeg (a1 + 1)) (Int32.toNatClampNeg ((σ 0 5) - a1)))) fun σ5 =>
        gd a1 80 <|
        lt (up σ5 5 (Int32.toNatClampNeg a1) (σ5 0 5)) fun σ7 =>
        gd (σ7 0 5) 80 <|
        lt (up σ7 1 (Int32.toNatClampNeg (σ7 0 5)) a2) fun σ9 =>
        gd (σ9 0 5) 80 <|
        lt (up σ9 2 (Int32.toNatClampNeg (σ9 0 5)) a3) fun σ11 =>
        gd (σ11 0 5) 80 <|
        lt (up σ11 3 (Int32.toNatClampNeg (σ11 0 5)) a4) fun σ13 =>
        gd (σ13 0 5) 80 <|
        lt (up σ13 4 (Int32.toNatClampNeg (σ13 0 5)) (vp_nar .boolean 0)) fun σ15 =>
        lt (up σ15 0 5 ((σ15 0 5) + 1)) fun σ16 =>
        some (σ16)
      else
        some (σ)

def X2_give (a1 : Int32) (a2 : Int32) (a3 : Int32) (σ : Mem) : Option ((Mem) × Nat) :=
  if a1 < 0 then
    some (σ, 0)
  else
    if 80 ≤ a1 then
      some (σ, 0)
    else
      bd (X2_latest a1 σ) fun r3 =>
      if r3 = a3 then
        some (σ, 0)
      else
        bd (X2_hasRoom σ) fun r5 =>
        kad r5.2 <|
        lt (r5.1.2) fun σ6 =>
        if r5.1.1 = 0 then
          some (σ6, 0)
        else
          gd (σ6 0 5) (σ6 6 0).toNatClampNeg <|
          lt (up σ6 1 (Int32.toNatClampNeg (σ6 0 5)) a1) fun σ11 =>
          gd (σ11 0 5) (σ11 6 0).toNatClampNeg <|
          lt (up σ11 2 (Int32.toNatClampNeg (σ11 0 5)) a2) fun σ13 =>
          gd (σ13 0 5) (σ13 6 0).toNatClampNeg <|
          lt (up σ13 3 (Int32.toNatClampNeg (σ13 0 5)) a3) fun σ15 =>
          gd a1 80 <|
          gd (σ15 0 5) (σ15 6 0).toNatClampNeg <|
          lt (up σ15 4 (Int32.toNatClampNeg (σ15 0 5)) (σ15 5 (Int32.toNatClampNeg a1))) fun σ18 =>
          gd a1 80 <|
          lt (up σ18 5 (Int32.toNatClampNeg a1) (σ18 0 5)) fun σ20 =>
          lt (up σ20 0 5 ((σ20 0 5) + 1)) fun σ21 =>
          some (σ21, 0)
def X9_add_43 (a1 : Int32) (a2 : Int32) (y0 : Int32) (σ : Mem) : Option ((Int32 × Mem) × Nat) := bd (X9_placeOfNew a1 a2 σ) fun r1 =>
    bd (X6_isThrough y0 (mp σ [5, 6, 7])) fun r2 =>
    bd (X9_labelAhead r1 y0 a1 r2 σ) fun r3 =>
    bd (X9_labelFrom r1 y0 a1 r2 σ) fun r4 =>
    bd (X5_between r3 r4) fun r5 =>
    if r5 = 0 then
      some (((-2), σ), 0)
    else
      lt (σ 15 5) fun x9_7 =>
      bd (X0_open 1 x9_7 (σ 21 5) (mp σ [27, 28, 29, 30])) fun r8 =>
      lt (mg σ [27, 28, 29, 30] r8) fun σ9 =>
      bd (X3_insert r1 y0 a1 (σ9 0 10) (mp σ9 [15, 16, 17, 18, 19, 20])) fun r10 =>
      lt (mg σ9 [15, 16, 17, 18, 19, 20] r10) fun σ11 =>
      bd (X2_give x9_7 (σ11 0 10) r5 (mp σ11 [21, 22, 23, 24, 25, 26, 32])) fun r12 =>
      kad r12.2 <|
      lt (mg σ11 [21, 22, 23, 24, 25, 26, 32] r12.1) fun σ13 =>
      some ((x9_7, σ13), 0)
def X9_add (a1 : Int32) (a2 : Int32) (σ : Mem) : Option ((Int32 × Mem) × Nat) :=
  if 80 ≤ (σ 15 5) then
    some (((-1), σ), 0)
  else
    bd (X9_isPlaceTold a1 a2 σ) fun r17 =>
    if r17 = 0 then
      some (((-1), σ), 0)
    else
      if a1 = (-1) then
        X9_add_43 a1 a2 0 σ
      else
        gd a1 80 <|
        X9_add_43 a1 a2 ((σ 16 (Int32.toNatClampNeg a1)) + 1) σ
def X3_setStruck_39 (a1 : Int32) (a2 : Int32) (y1 : Int32) (y2 : Int32) (σ : Mem) : Option (Mem) := lt (up σ 0 6 (y1 + y2)) fun σ1 =>
    some (σ1)
def X3_setStruck (a1 : Int32) (a2 : Int32) (σ : Mem) : Option (Mem) :=
  bd (X3_has a1 σ) fun r2 =>
  if r2 = 0 then
    some (σ)
  else
    gd a1 80 <|
    if (σ 4 (Int32.toNatClampNeg a1)) = a2 then
      some (σ)
    else
      gd a1 80 <|
      lt (up σ 4 (Int32.toNatClampNeg a1) (vp_nar .boolean a2)) fun σ7 =>
      if a2 = 0 then
        X3_setStruck_39 a1 a2 (σ7 0 6) (-1) σ7
      else
        X3_setStruck_39 a1 a2 (σ7 0 6) 1 σ7
def X9_strike (a1 : Int32) (σ : Mem) : Option (Int32 × Mem) :=
  bd (X3_has a1 (mp σ [15, 16, 17, 18, 19, 20])) fun r1 =>
  if r1 = 0 then
    some (0, σ)
  else
    gd a1 80 <|
    if (σ 19 (Int32.toNatClampNeg a1)) = 0 then
      bd (X0_open 2 a1 (σ 21 5) (mp σ [27, 28, 29, 30])) fun r5 =>
      lt (mg σ [27, 28, 29, 30] r5) fun σ6 =>
      bd (X3_setStruck a1 1 (mp σ6 [15, 16, 17, 18, 19, 20])) fun r7 =>
      lt (mg σ6 [15, 16, 17, 18, 19, 20] r7) fun σ8 =>
      some (1, σ8)
    else
      some (0, σ)
def X9_renumber_51 (a1 : Int32) : Nat → Int32 → Int32 → Int32 → Mem → Option ((Int32 × Mem) × Nat)
  | 0, _, _, _, _ => none
  | n + 1, x2, x3, x4, σ => if (σ 15 5) ≤ x4 then
        some ((1, σ), 0)
      else
        gd x4 80 <|
        lt (σ 20 (Int32.toNatClampNeg x4)) fun x5_3 =>
        gd a1 80 <|
        gd a1 80 <|
        bd (X3_isInRow x5_3 (σ 16 (Int32.toNatClampNeg a1)) (σ 17 (Int32.toNatClampNeg a1)) x2 (mp σ [15, 16, 17, 18, 19, 20])) fun r6 =>
        if r6 = 0 then
          lt (x4 + 1) fun x4_22 =>
          X9_renumber_51 a1 n x2 x3 x4_22 σ
        else
          gd x5_3 80 <|
          if (σ 19 (Int32.toNatClampNeg x5_3)) = 0 then
            lt (x3 + 1) fun x3_10 =>
            bd (X5_plain x3_10) fun r11 =>
            bd (X2_give x5_3 (σ 0 10) r11 (mp σ [21, 22, 23, 24, 25, 26, 32])) fun r12 =>
            kad r12.2 <|
            lt (mg σ [21, 22, 23, 24, 25, 26, 32] r12.1) fun σ13 =>
            lt (x4 + 1) fun x4_16 =>
            X9_renumber_51 a1 n x2 x3_10 x4_16 σ13
          else
            bd (X2_give x5_3 (σ 0 10) 0 (mp σ [21, 22, 23, 24, 25, 26, 32])) fun r17 =>
            kad r17.2 <|
            lt (mg σ [21, 22, 23, 24, 25, 26, 32] r17.1) fun σ18 =>
            lt (x4 + 1) fun x4_21 =>
            X9_renumber_51 a1 n x2 x3 x4_21 σ18
def X9_renumber (a1 : Int32) (σ : Mem) : Option ((Int32 × Mem) × Nat) :=
  bd (X3_has a1 (mp σ [15, 16, 17, 18, 19, 20])) fun r23 =>
  if r23 = 0 then
    some ((0, σ), 0)
  else
    bd (X0_open 3 a1 (σ 21 5) (mp σ [27, 28, 29, 30])) fun r25 =>
    lt (mg σ [27, 28, 29, 30] r25) fun σ26 =>
    gd a1 80 <|
    bd (X6_isThrough (σ26 16 (Int32.toNatClampNeg a1)) (mp σ26 [5, 6, 7])) fun r28 =>
    X9_renumber_51 a1 FU r28 0 0 σ26
def X5_withSuffix_41 (a0 : Int32) (a1 : Int32) (k14 : (Int32 → Int32 → Int32 → Option (Int32))) (x2 : Int32) (x3 : Int32) (x4 : Int32) (x5 : Int32) : Option (Int32) := if x5 < 65 then
          some (0)
        else
          if x5 ≤ 90 then
            bd (X5_setLetter x2 x3 (x5 - 64)) fun r3 =>
            lt (x3 + 1) fun x3_4 =>
            lt (x4 + (-8)) fun x4_5 =>
            k14 r3 x3_4 x4_5
          else
            some (0)
def X5_withSuffix_14 (a0 : Int32) (a1 : Int32) : Nat → Int32 → Int32 → Int32 → Option (Int32)
  | 0, _, _, _ => none
  | n + 1, x2, x3, x4 => if x4 < 0 then
        some (x2)
      else
        lt ((UInt32.toInt32 (Int32.toUInt32 a1 >>> (Int32.toUInt32 x4 &&& Int32.toUInt32 31))) &&& 255) fun x5_7 =>
        if x5_7 = 0 then
          if x3 = 0 then
            lt (x4 + (-8)) fun x4_10 =>
            X5_withSuffix_14 a0 a1 n x2 x3 x4_10
          else
            X5_withSuffix_41 a0 a1 (X5_withSuffix_14 a0 a1 n) x2 x3 x4 x5_7
        else
          X5_withSuffix_41 a0 a1 (X5_withSuffix_14 a0 a1 n) x2 x3 x4 x5_7
def X5_withSuffix (a0 : Int32) (a1 : Int32) : Option (Int32) :=
  if a0 = 0 then
    some (0)
  else
    X5_withSuffix_14 a0 a1 FU a0 0 24
def X9_error (a1 : Int32) (a2 : Int32) (a3 : Int32) (σ : Mem) : Option ((Int32 × Mem) × Nat) :=
  bd (X5_plain a2) fun r1 =>
  bd (X5_withSuffix r1 a3) fun r2 =>
  bd (X3_has a1 (mp σ [15, 16, 17, 18, 19, 20])) fun r3 =>
  if r3 = 0 then
    some ((0, σ), 0)
  else
    if r2 = 0 then
      some ((0, σ), 0)
    else
      bd (X0_open 3 a1 (σ 21 5) (mp σ [27, 28, 29, 30])) fun r6 =>
      lt (mg σ [27, 28, 29, 30] r6) fun σ7 =>
      bd (X2_give a1 (σ7 0 10) r2 (mp σ7 [21, 22, 23, 24, 25, 26, 32])) fun r8 =>
      kad r8.2 <|
      lt (mg σ7 [21, 22, 23, 24, 25, 26, 32] r8.1) fun σ9 =>
      some ((1, σ9), 0)
def X0_latestSlot (σ : Mem) : Option (Int32) :=
  if (σ 0 3) ≤ 0 then
    some (99)
  else
    some ((σ 0 3) - 1)
def X0_latestKind (σ : Mem) : Option (Int32) :=
  if (σ 0 4) ≤ 0 then
    some ((-1))
  else
    bd (X0_latestSlot σ) fun r2 =>
    gd r2 100 <|
    some (σ 1 (Int32.toNatClampNeg r2))
def X0_latestMark (σ : Mem) : Option (Int32) :=
  bd (X0_latestSlot σ) fun r1 =>
  gd r1 100 <|
  some (σ 3 (Int32.toNatClampNeg r1))
def X2_cutTo_0 (a1 : Int32) : Nat → Mem → Option (Mem)
  | 0, _ => none
  | n + 1, σ => if (σ 0 5) ≤ a1 then
        some (σ)
      else
        if (σ 0 5) ≤ 0 then
          some (σ)
        else
          lt (up σ 0 5 ((σ 0 5) - 1)) fun σ3 =>
          gd (σ3 0 5) (σ3 6 0).toNatClampNeg <|
          gd (σ3 0 5) (σ3 6 0).toNatClampNeg <|
          gd (σ3 1 (Int32.toNatClampNeg (σ3 0 5))) 80 <|
          lt (up σ3 5 (Int32.toNatClampNeg (σ3 1 (Int32.toNatClampNeg (σ3 0 5)))) (σ3 4 (Int32.toNatClampNeg (σ3 0 5)))) fun σ7 =>
          X2_cutTo_0 a1 n σ7
def X2_cutTo (a1 : Int32) (σ : Mem) : Option (Mem) :=
  X2_cutTo_0 a1 FU σ
def X3_dropLast (σ : Mem) : Option (Mem) :=
  bd (X3_placeOf ((σ 0 5) - 1) σ) fun r1 =>
  if r1 = (-1) then
    some (σ)
  else
    gp ((¬ (r1 + 1) < 0 ∧ ¬ r1 < 0 ∧ ¬ (((σ 0 5) - r1) - 1) < 0) ∧ (Int32.toNatClampNeg (r1 + 1)) + (Int32.toNatClampNeg (((σ 0 5) - r1) - 1)) ≤ 80 ∧ (Int32.toNatClampNeg r1) + (Int32.toNatClampNeg (((σ 0 5) - r1) - 1)) ≤ 80) <|
    lt (upc σ 5 (va_cpy (σ 5) (σ 5) (Int32.toNatClampNeg (r1 + 1)) (Int32.toNatClampNeg r1) (Int32.toNatClampNeg (((σ 0 5) - r1) - 1)))) fun σ4 =>
    lt (up σ4 0 5 ((σ4 0 5) - 1)) fun σ5 =>
    some (σ5)
def X0_latestItem (σ : Mem) : Option (Int32) :=
  bd (X0_latestSlot σ) fun r1 =>
  gd r1 100 <|
  some (σ 2 (Int32.toNatClampNeg r1))
def X0_close (σ : Mem) : Option (Mem) :=
  if (σ 0 4) ≤ 0 then
    some (σ)
  else
    bd (X0_latestSlot σ) fun r2 =>
    lt (up σ 0 3 r2) fun σ3 =>
    lt (up σ3 0 4 ((σ3 0 4) - 1)) fun σ4 =>
    some (σ4)
def X9_undo_64 (σ : Mem) : Option (Int32 × Mem) := bd (X0_close (mp σ [27, 28, 29, 30])) fun r1 =>
    lt (mg σ [27, 28, 29, 30] r1) fun σ2 =>
    some (1, σ2)
def X9_undo (σ : Mem) : Option (Int32 × Mem) :=
  bd (X0_latestKind (mp σ [27, 28, 29, 30])) fun r3 =>
  if r3 = (-1) then
    some (0, σ)
  else
    bd (X0_latestMark (mp σ [27, 28, 29, 30])) fun r5 =>
    bd (X2_cutTo r5 (mp σ [21, 22, 23, 24, 25, 26, 32])) fun r6 =>
    lt (mg σ [21, 22, 23, 24, 25, 26, 32] r6) fun σ7 =>
    if r3 = 1 then
      bd (X3_dropLast (mp σ7 [15, 16, 17, 18, 19, 20])) fun r13 =>
      lt (mg σ7 [15, 16, 17, 18, 19, 20] r13) fun σ14 =>
      X9_undo_64 σ14
    else
      if r3 = 2 then
        bd (X0_latestItem (mp σ7 [27, 28, 29, 30])) fun r10 =>
        bd (X3_setStruck r10 0 (mp σ7 [15, 16, 17, 18, 19, 20])) fun r11 =>
        lt (mg σ7 [15, 16, 17, 18, 19, 20] r11) fun σ12 =>
        X9_undo_64 σ12
      else
        X9_undo_64 σ7
def X9_wait (a1 : Int32) (σ : Mem) : Option (Int32 × Mem) :=
  if a1 < 0 then
    some (0, σ)
  else
    if 1000 < a1 then
      some (0, σ)
    else
      if ((σ 0 10) + a1) ≤ 9999 then
        lt (up σ 0 10 ((σ 0 10) + a1)) fun σ4 =>
        some (1, σ4)
      else
        some (0, σ)
def X3_placeInRow_12 (a1 : Int32) (a2 : Int32) (σ : Mem) : Nat → Int32 → Int32 → Int32 → Option (Int32)
  | 0, _, _, _ => none
  | n + 1, x3, x4, x5 => if x4 ≤ x5 then
        some (x3)
      else
        gd x5 80 <|
        gd a1 80 <|
        gd a1 80 <|
        bd (X3_isInRow (σ 5 (Int32.toNatClampNeg x5)) (σ 1 (Int32.toNatClampNeg a1)) (σ 2 (Int32.toNatClampNeg a1)) a2 σ) fun r5 =>
        if r5 = 0 then
          lt (x5 + 1) fun x5_7 =>
          X3_placeInRow_12 a1 a2 σ n x3 x4 x5_7
        else
          lt (x3 + 1) fun x3_8 =>
          lt (x5 + 1) fun x5_9 =>
          X3_placeInRow_12 a1 a2 σ n x3_8 x4 x5_9
def X3_placeInRow (a1 : Int32) (a2 : Int32) (σ : Mem) : Option (Int32) :=
  bd (X3_placeOf a1 σ) fun r10 =>
  X3_placeInRow_12 a1 a2 σ FU 0 r10 0
def X9_about (a1 : Int32) (a2 : Int32) (σ : Mem) : Option (Option Int32) :=
  bd (X3_has a1 (mp σ [15, 16, 17, 18, 19, 20])) fun r1 =>
  if r1 = 0 then
    some none
  else
    if a2 = 0 then
      gd a1 80 <|
      some (some (σ 16 (Int32.toNatClampNeg a1)))
    else if a2 = 1 then
      gd a1 80 <|
      some (some (σ 17 (Int32.toNatClampNeg a1)))
    else if a2 = 2 then
      gd a1 80 <|
      if (σ 19 (Int32.toNatClampNeg a1)) = 0 then
        some (some 0)
      else
        some (some 1)
    else if a2 = 3 then
      gd a1 80 <|
      bd (X6_isThrough (σ 16 (Int32.toNatClampNeg a1)) (mp σ [5, 6, 7])) fun r12 =>
      bd (X3_placeInRow a1 r12 (mp σ [15, 16, 17, 18, 19, 20])) fun r13 =>
      some (some r13)
    else if a2 = 4 then
      bd (X3_placeOf a1 (mp σ [15, 16, 17, 18, 19, 20])) fun r15 =>
      some (some r15)
    else if a2 = 5 then
      gd a1 80 <|
      some (some (σ 18 (Int32.toNatClampNeg a1)))
    else 
      some none
def X2_asOf_59 (a1 : Int32) (a2 : Int32) (σ : Mem) (x3 : Int32) : Option (Int32) := if x3 < 0 then
      some (0)
    else
      gd x3 (σ 6 0).toNatClampNeg <|
      some (σ 3 (Int32.toNatClampNeg x3))
def X2_asOf_21 (a1 : Int32) (a2 : Int32) (σ : Mem) : Nat → Int32 → Option (Int32)
  | 0, _ => none
  | n + 1, x3 => if x3 < 0 then
        X2_asOf_59 a1 a2 σ x3
      else
        gd x3 (σ 6 0).toNatClampNeg <|
        if (σ 2 (Int32.toNatClampNeg x3)) ≤ a2 then
          X2_asOf_59 a1 a2 σ x3
        else
          gd x3 (σ 6 0).toNatClampNeg <|
          if x3 ≤ (σ 4 (Int32.toNatClampNeg x3)) then
            X2_asOf_21 a1 a2 σ n (-1)
          else
            gd x3 (σ 6 0).toNatClampNeg <|
            lt (σ 4 (Int32.toNatClampNeg x3)) fun x3_9 =>
            X2_asOf_21 a1 a2 σ n x3_9
def X2_asOf (a1 : Int32) (a2 : Int32) (σ : Mem) : Option (Int32) :=
  if a1 < 0 then
    X2_asOf_21 a1 a2 σ FU (-1)
  else
    if 80 ≤ a1 then
      X2_asOf_21 a1 a2 σ FU (-1)
    else
      gd a1 80 <|
      lt (σ 5 (Int32.toNatClampNeg a1)) fun x3_13 =>
      X2_asOf_21 a1 a2 σ FU x3_13
def X6_formOf (a1 : Int32) (σ : Mem) : Option (Int32) :=
  if a1 < 0 then
    some (0)
  else
    if (σ 0 2) ≤ a1 then
      some (0)
    else
      gd a1 4 <|
      some (σ 1 (Int32.toNatClampNeg a1))
def X1_writeRoman_14 (a1 : Int32) (a2 : Int32) (k5 : (Int32 → Int32 → Mem → Option (Mem))) : Nat → Int32 → Int32 → Mem → Option (Mem)
  | 0, _, _, _ => none
  | n + 1, x3, x4, σ => gd x4 12 <|
          if x3 < (fSTEPS (Int32.toNatClampNeg x4)) then
            lt (x4 + 1) fun x4_3 =>
            k5 x3 x4_3 σ
          else
            gd x4 12 <|
            lt (x3 - (fSTEPS (Int32.toNatClampNeg x4))) fun x3_5 =>
            gd x4 12 <|
            bd (X8_put ((fFIRST (Int32.toNatClampNeg x4)) + a2) σ) fun r7 =>
            lt (r7) fun σ8 =>
            gd x4 12 <|
            if (fSECOND (Int32.toNatClampNeg x4)) = 0 then
              X1_writeRoman_14 a1 a2 k5 n x3_5 x4 σ8
            else
              gd x4 12 <|
              bd (X8_put ((fSECOND (Int32.toNatClampNeg x4)) + a2) σ8) fun r12 =>
              lt (r12) fun σ13 =>
              X1_writeRoman_14 a1 a2 k5 n x3_5 x4 σ13
def X1_writeRoman_5 (a1 : Int32) (a2 : Int32) : Nat → Int32 → Int32 → Mem → Option (Mem)
  | 0, _, _, _ => none
  | n + 1, x3, x4, σ => if 12 ≤ x4 then
        some (σ)
      else
        X1_writeRoman_14 a1 a2 (X1_writeRoman_5 a1 a2 n) FU x3 x4 σ
def X1_writeRoman (a1 : Int32) (a2 : Int32) (σ : Mem) : Option (Mem) :=
  X1_writeRoman_5 a1 a2 FU a1 0 σ
def X1_writeLetters_43 (a1 : Int32) (σ : Mem) : Option (Mem) := bd (X8_put (97 + ((a1 - 1) - (a1 - 1) / 26 * 26)) σ) fun r1 =>
    lt (r1) fun σ2 =>
    some (σ2)
def X1_writeLetters_26 (a1 : Int32) (x2 : Int32) (σ : Mem) : Option (Mem) := if x2 ≤ 0 then
      X1_writeLetters_43 a1 σ
    else
      bd (X8_put (97 + ((x2 - 1) - (x2 - 1) / 26 * 26)) σ) fun r4 =>
      lt (r4) fun σ5 =>
      X1_writeLetters_43 a1 σ5
def X1_writeLetters (a1 : Int32) (σ : Mem) : Option (Mem) :=
  lt ((a1 - 1) / 26) fun x2_6 =>
  if x2_6 ≤ 26 then
    X1_writeLetters_26 a1 x2_6 σ
  else
    bd (X8_put (96 + ((x2_6 - 1) / 26)) σ) fun r8 =>
    lt (r8) fun σ9 =>
    X1_writeLetters_26 a1 x2_6 σ9
def X1_writeDigits_37 (a1 : Int32) (σ : Mem) : Option (Mem) := bd (X8_put (48 + (a1 - a1 / 10 * 10)) σ) fun r1 =>
    lt (r1) fun σ2 =>
    some (σ2)
def X1_writeDigits_17 (a1 : Int32) (σ : Mem) : Option (Mem) := if a1 < 10 then
      X1_writeDigits_37 a1 σ
    else
      bd (X8_put (48 + ((a1 / 10) - (a1 / 10) / 10 * 10)) σ) fun r4 =>
      lt (r4) fun σ5 =>
      X1_writeDigits_37 a1 σ5
def X1_writeDigits (a1 : Int32) (σ : Mem) : Option (Mem) :=
  if a1 < 100 then
    X1_writeDigits_17 a1 σ
  else
    bd (X8_put (48 + (a1 / 100)) σ) fun r7 =>
    lt (r7) fun σ8 =>
    X1_writeDigits_17 a1 σ8
def X1_writeLabel_88 (a1 : Int32) (a2 : Int32) : Nat → Int32 → Int32 → Mem → Option (Mem)
  | 0, _, _, _ => none
  | n + 1, x4, x5, σ => if x4 ≤ x5 then
        some (σ)
      else
        bd (X5_letterOf a2 x5) fun r2 =>
        bd (X8_put (64 + r2) σ) fun r3 =>
        lt (r3) fun σ4 =>
        lt (x5 + 1) fun x5_5 =>
        X1_writeLabel_88 a1 a2 n x4 x5_5 σ4
def X1_writeLabel_64 (a1 : Int32) (a2 : Int32) (σ : Mem) : Option (Mem) := bd (X5_lettersIn a2) fun r6 =>
    if r6 ≤ 0 then
      X1_writeLabel_88 a1 a2 FU r6 0 σ
    else
      if a1 = 0 then
        X1_writeLabel_88 a1 a2 FU r6 0 σ
      else
        bd (X8_put 45 σ) fun r9 =>
        lt (r9) fun σ10 =>
        X1_writeLabel_88 a1 a2 FU r6 0 σ10
def X1_writeLabel (a1 : Int32) (a2 : Int32) (σ : Mem) : Option (Mem) :=
  bd (X5_numberOf a2) fun r11 =>
  if a1 = 1 then
    bd (X1_writeRoman r11 0 σ) fun r13 =>
    lt (r13) fun σ14 =>
    X1_writeLabel_64 a1 a2 σ14
  else if a1 = 2 then
    bd (X1_writeLetters r11 σ) fun r16 =>
    lt (r16) fun σ17 =>
    X1_writeLabel_64 a1 a2 σ17
  else if a1 = 3 then
    bd (X1_writeRoman r11 32 σ) fun r19 =>
    lt (r19) fun σ20 =>
    X1_writeLabel_64 a1 a2 σ20
  else 
    bd (X1_writeDigits r11 σ) fun r21 =>
  lt (r21) fun σ22 =>
  X1_writeLabel_64 a1 a2 σ22
def X9_label (a1 : Int32) (a2 : Int32) (σ : Mem) : Option (Int32 × Mem) :=
  bd (X2_asOf a1 a2 (mp σ [21, 22, 23, 24, 25, 26, 32])) fun r1 =>
  bd (X3_has a1 (mp σ [15, 16, 17, 18, 19, 20])) fun r2 =>
  if r2 = 0 then
    some ((-1), σ)
  else
    if r1 = 0 then
      some ((-1), σ)
    else
      lt (up σ 3 1 0) fun σ5 =>
      gd a1 80 <|
      bd (X6_formOf (σ5 16 (Int32.toNatClampNeg a1)) (mp σ5 [5, 6, 7])) fun r7 =>
      bd (X1_writeLabel r7 r1 (mp σ5 [3, 4])) fun r8 =>
      lt (mg σ5 [3, 4] r8) fun σ9 =>
      some (σ9 3 1, σ9)
def X9_cited_125 (a1 : Int32) (a2 : Int32) (k97 : (Int32 → Mem → Option (Int32 × Mem))) (x4 : Int32) (σ : Mem) : Option (Int32 × Mem) := bd (X6_formOf x4 (mp σ [5, 6, 7])) fun r1 =>
        gd x4 4 <|
        bd (X1_writeLabel r1 (σ 31 (Int32.toNatClampNeg x4)) (mp σ [3, 4])) fun r3 =>
        lt (mg σ [3, 4] r3) fun σ4 =>
        lt (x4 + 1) fun x4_5 =>
        k97 x4_5 σ4
def X9_cited_97 (a1 : Int32) (a2 : Int32) : Nat → Int32 → Mem → Option (Int32 × Mem)
  | 0, _, _ => none
  | n + 1, x4, σ => gd a1 80 <|
      if (σ 16 (Int32.toNatClampNeg a1)) < x4 then
        some (σ 3 1, σ)
      else
        if x4 ≤ 0 then
          X9_cited_125 a1 a2 (X9_cited_97 a1 a2 n) x4 σ
        else
          bd (X8_put 46 (mp σ [3, 4])) fun r9 =>
          lt (mg σ [3, 4] r9) fun σ10 =>
          X9_cited_125 a1 a2 (X9_cited_97 a1 a2 n) x4 σ10
def X9_cited_86 (a1 : Int32) (a2 : Int32) (σ : Mem) : Option (Int32 × Mem) := lt (up σ 3 1 0) fun σ11 =>
    X9_cited_97 a1 a2 FU 0 σ11
def X9_cited_26 (a1 : Int32) (a2 : Int32) : Nat → Int32 → Int32 → Mem → Option (Int32 × Mem)
  | 0, _, _, _ => none
  | n + 1, x3, x4, σ => if x4 < 0 then
        X9_cited_86 a1 a2 σ
      else
        bd (X3_has x3 (mp σ [15, 16, 17, 18, 19, 20])) fun r13 =>
        if r13 = 0 then
          X9_cited_86 a1 a2 σ
        else
          bd (X2_asOf x3 a2 (mp σ [21, 22, 23, 24, 25, 26, 32])) fun r15 =>
          gd x4 4 <|
          lt (up σ 31 (Int32.toNatClampNeg x4) r15) fun σ17 =>
          gd x4 4 <|
          if (σ17 31 (Int32.toNatClampNeg x4)) = 0 then
            some ((-1), σ17)
          else
            gd x3 80 <|
            lt (σ17 17 (Int32.toNatClampNeg x3)) fun x3_21 =>
            lt (x4 + (-1)) fun x4_22 =>
            X9_cited_26 a1 a2 n x3_21 x4_22 σ17
def X9_cited (a1 : Int32) (a2 : Int32) (σ : Mem) : Option (Int32 × Mem) :=
  bd (X3_has a1 (mp σ [15, 16, 17, 18, 19, 20])) fun r23 =>
  if r23 = 0 then
    some ((-1), σ)
  else
    gd a1 80 <|
    lt (σ 16 (Int32.toNatClampNeg a1)) fun x4_26 =>
    X9_cited_26 a1 a2 FU a1 x4_26 σ
def X9_octet_15 (a1 : Int32) (σ : Mem) : Option (Option Int32) := some none
def X9_octet (a1 : Int32) (σ : Mem) : Option (Option Int32) :=
  if a1 < 0 then
    X9_octet_15 a1 σ
  else
    if a1 < (σ 3 1) then
      bd (X8_byteAt a1 (mp σ [3, 4])) fun r3 =>
      some (some r3)
    else
      X9_octet_15 a1 σ
def X1_romanWorth (a0 : Int32) : Option (Int32) :=
  if a0 = 67 then
    some (100)
  else if a0 = 68 then
    some (500)
  else if a0 = 73 then
    some (1)
  else if a0 = 76 then
    some (50)
  else if a0 = 77 then
    some (1000)
  else if a0 = 86 then
    some (5)
  else if a0 = 88 then
    some (10)
  else 
    some (0)
def X1_isNumeral (a0 : Int32) (a1 : Int32) : Option (Int32) :=
  if a0 = 1 then
    bd (X1_romanWorth a1) fun r2 =>
    if r2 ≤ 0 then
      some (0)
    else
      some (1)
  else if a0 = 2 then
    if a1 < 97 then
      some (0)
    else
      if 122 < a1 then
        some (0)
      else
        some (1)
  else if a0 = 3 then
    bd (X1_romanWorth (a1 - 32)) fun r8 =>
    if r8 ≤ 0 then
      some (0)
    else
      some (1)
  else 
    if a1 < 48 then
    some (0)
  else
    if 57 < a1 then
      some (0)
    else
      some (1)
def X4_numeralsEnd_2 (a1 : Int32) (a2 : Int32) (σ : Mem) : Nat → Int32 → Option (Int32)
  | 0, _ => none
  | n + 1, x3 => if (σ 0 1) ≤ x3 then
        some (x3)
      else
        bd (X8_byteAt x3 σ) fun r2 =>
        bd (X1_isNumeral a2 r2) fun r3 =>
        if r3 = 0 then
          some (x3)
        else
          lt (x3 + 1) fun x3_5 =>
          X4_numeralsEnd_2 a1 a2 σ n x3_5
def X4_numeralsEnd (a1 : Int32) (a2 : Int32) (σ : Mem) : Option (Int32) :=
  X4_numeralsEnd_2 a1 a2 σ FU a1
def X4_failAt (a1 : Int32) (a2 : Int32) (σ : Mem) : Option (Mem) :=
  lt (up σ 0 2 a2) fun σ1 =>
  lt (up σ1 0 3 a1) fun σ2 =>
  some (σ2)
def X4_capitalsEnd_2 (a1 : Int32) (σ : Mem) : Nat → Int32 → Option (Int32)
  | 0, _ => none
  | n + 1, x2 => if (σ 0 1) ≤ x2 then
        some (x2)
      else
        bd (X8_byteAt x2 σ) fun r2 =>
        if r2 < 65 then
          some (x2)
        else
          bd (X8_byteAt x2 σ) fun r4 =>
          if 90 < r4 then
            some (x2)
          else
            lt (x2 + 1) fun x2_6 =>
            X4_capitalsEnd_2 a1 σ n x2_6
def X4_capitalsEnd (a1 : Int32) (σ : Mem) : Option (Int32) :=
  X4_capitalsEnd_2 a1 σ FU a1
def X1_romanIn_50 (a1 : Int32) (a2 : Int32) (a3 : Int32) (σ : Mem) (k6 : (Int32 → Int32 → Option (Int32))) (x4 : Int32) (x5 : Int32) (x6 : Int32) (y0 : Int32) : Option (Int32) := if y0 ≤ x6 then
          lt (x4 + x6) fun x4_2 =>
          lt (x5 + 1) fun x5_3 =>
          k6 x4_2 x5_3
        else
          lt (x4 + (-x6)) fun x4_4 =>
          lt (x5 + 1) fun x5_5 =>
          k6 x4_4 x5_5
def X1_romanIn_6 (a1 : Int32) (a2 : Int32) (a3 : Int32) (σ : Mem) : Nat → Int32 → Int32 → Option (Int32)
  | 0, _, _ => none
  | n + 1, x4, x5 => if a2 ≤ x5 then
        some (x4)
      else
        bd (X8_byteAt x5 σ) fun r7 =>
        bd (X1_romanWorth (r7 - a3)) fun r8 =>
        if a2 ≤ (x5 + 1) then
          X1_romanIn_50 a1 a2 a3 σ (X1_romanIn_6 a1 a2 a3 σ n) x4 x5 r8 0
        else
          bd (X8_byteAt (x5 + 1) σ) fun r10 =>
          bd (X1_romanWorth (r10 - a3)) fun r11 =>
          X1_romanIn_50 a1 a2 a3 σ (X1_romanIn_6 a1 a2 a3 σ n) x4 x5 r8 r11
def X1_romanIn (a1 : Int32) (a2 : Int32) (a3 : Int32) (σ : Mem) : Option (Int32) :=
  X1_romanIn_6 a1 a2 a3 σ FU 0 a1
def X1_placesIn_6 (a1 : Int32) (a2 : Int32) (a3 : Int32) (a4 : Int32) (σ : Mem) : Nat → Int32 → Int32 → Option (Int32)
  | 0, _, _ => none
  | n + 1, x5, x6 => if a2 ≤ x6 then
        some (x5)
      else
        if 999 < x5 then
          some (x5)
        else
          bd (X8_byteAt x6 σ) fun r3 =>
          lt (((x5 * a3) + r3) - a4) fun x5_4 =>
          lt (x6 + 1) fun x6_5 =>
          X1_placesIn_6 a1 a2 a3 a4 σ n x5_4 x6_5
def X1_placesIn (a1 : Int32) (a2 : Int32) (a3 : Int32) (a4 : Int32) (σ : Mem) : Option (Int32) :=
  X1_placesIn_6 a1 a2 a3 a4 σ FU 0 a1
def X1_numberIn (a1 : Int32) (a2 : Int32) (a3 : Int32) (σ : Mem) : Option (Int32) :=
  if a3 = 1 then
    bd (X1_romanIn a1 a2 0 σ) fun r2 =>
    some (r2)
  else if a3 = 2 then
    bd (X1_placesIn a1 a2 26 96 σ) fun r4 =>
    some (r4)
  else if a3 = 3 then
    bd (X1_romanIn a1 a2 32 σ) fun r6 =>
    some (r6)
  else 
    bd (X1_placesIn a1 a2 10 48 σ) fun r7 =>
  some (r7)
def X4_meant_18 (a2 : Int32) (a3 : Int32) (σ : Mem) : Nat → Int32 → Int32 → Option (Int32)
  | 0, _, _ => none
  | n + 1, x4, x5 => if (σ 0 1) ≤ x5 then
        bd (X5_plain a3) fun r2 =>
        bd (X5_withSuffix r2 x4) fun r3 =>
        some (r3)
      else
        bd (X8_byteAt x5 (mp σ [3, 4])) fun r4 =>
        lt ((x4 <<< (8 &&& 31)) ||| r4) fun x4_5 =>
        lt (x5 + 1) fun x5_6 =>
        X4_meant_18 a2 a3 σ n x4_5 x5_6
def X4_meant (a2 : Int32) (a3 : Int32) (σ : Mem) : Option (Int32) :=
  if ((σ 0 1) - a2) ≤ 4 then
    X4_meant_18 a2 a3 σ FU 0 a2
  else
    some (0)
def X8_isPart_15 (a1 : Int32) (a2 : Int32) (σ : Mem) : Nat → Int32 → Option (Int32)
  | 0, _ => none
  | n + 1, x4 => if (σ 2 1) ≤ x4 then
        some (1)
      else
        bd (X8_byteAt (a1 + x4) (mp σ [0, 1])) fun r2 =>
        bd (X8_byteAt x4 (mp σ [2, 3])) fun r3 =>
        if r2 = r3 then
          lt (x4 + 1) fun x4_5 =>
          X8_isPart_15 a1 a2 σ n x4_5
        else
          some (0)
def X8_isPart (a1 : Int32) (a2 : Int32) (σ : Mem) : Option (Int32) :=
  if (a2 - a1) = (σ 2 1) then
    X8_isPart_15 a1 a2 σ FU 0
  else
    some (0)
def X4_isAsWritten (a2 : Int32) (a3 : Int32) (σ : Mem) : Option (Int32 × Mem) :=
  lt (up σ 1 1 0) fun σ1 =>
  bd (X1_writeLabel a3 (σ1 0 0) (mp σ1 [1, 2])) fun r2 =>
  lt (mg σ1 [1, 2] r2) fun σ3 =>
  bd (X8_isPart a2 (σ3 0 1) (mp σ3 [3, 4, 1, 2])) fun r4 =>
  gp (r4 = 0 ∨ r4 = 1) <|
  some (r4, σ3)
def X4_readAt_157 (a2 : Int32) (a3 : Int32) (σ : Mem) : Option (Mem) := bd (X4_failAt a2 2 (mp σ [0, 1, 2])) fun r1 =>
    lt (mg σ [0, 1, 2] r1) fun σ2 =>
    some (σ2)
def X4_readAt_121 (a2 : Int32) (a3 : Int32) (x4 : Int32) (x6 : Int32) (σ : Mem) : Option (Mem) := bd (X1_numberIn a2 x4 a3 (mp σ [3, 4])) fun r3 =>
    bd (X4_meant x6 r3 σ) fun r4 =>
    lt (up σ 0 0 r4) fun σ5 =>
    if (σ5 0 0) = 0 then
      X4_readAt_157 a2 a3 σ5
    else
      bd (X4_isAsWritten a2 a3 σ5) fun r7 =>
      lt (r7.2) fun σ8 =>
      if r7.1 = 0 then
        X4_readAt_157 a2 a3 σ8
      else
        some (σ8)
def X4_readAt_99 (a2 : Int32) (a3 : Int32) (x4 : Int32) (x5 : Int32) (x6 : Int32) (σ : Mem) : Option (Mem) := if x5 = 0 then
      X4_readAt_121 a2 a3 x4 x6 σ
    else
      if (σ 0 1) = x6 then
        bd (X4_failAt x6 1 (mp σ [0, 1, 2])) fun r12 =>
        lt (mg σ [0, 1, 2] r12) fun σ13 =>
        some (σ13)
      else
        X4_readAt_121 a2 a3 x4 x6 σ
def X4_readAt_89 (a2 : Int32) (a3 : Int32) (x4 : Int32) (x5 : Int32) (x6 : Int32) (σ : Mem) : Option (Mem) := bd (X4_capitalsEnd x6 (mp σ [3, 4])) fun r14 =>
    lt (up σ 0 1 r14) fun σ15 =>
    X4_readAt_99 a2 a3 x4 x5 x6 σ15
def X4_readAt_72 (a2 : Int32) (a3 : Int32) (x4 : Int32) (x5 : Int32) (y0 : Int32) (σ : Mem) : Option (Mem) := lt (up σ 0 1 y0) fun σ16 =>
    if x5 = 0 then
      if a3 = 0 then
        X4_readAt_89 a2 a3 x4 x5 y0 σ16
      else
        X4_readAt_99 a2 a3 x4 x5 y0 σ16
    else
      X4_readAt_89 a2 a3 x4 x5 y0 σ16
def X4_readAt_56 (a2 : Int32) (a3 : Int32) (x4 : Int32) (y0 : Int32) (σ : Mem) : Option (Mem) := if y0 = 0 then
      X4_readAt_72 a2 a3 x4 y0 x4 σ
    else
      X4_readAt_72 a2 a3 x4 y0 (x4 + 1) σ
def X4_readAt_55 (a2 : Int32) (a3 : Int32) (x4 : Int32) (σ : Mem) : Option (Mem) := X4_readAt_56 a2 a3 x4 0 σ
def X4_readAt (a2 : Int32) (a3 : Int32) (σ : Mem) : Option (Mem) :=
  lt (up σ 0 2 0) fun σ20 =>
  lt (up σ20 0 3 (-1)) fun σ21 =>
  lt (up σ21 0 0 0) fun σ22 =>
  bd (X4_numeralsEnd a2 a3 (mp σ22 [3, 4])) fun r23 =>
  if r23 = a2 then
    bd (X4_failAt a2 1 (mp σ22 [0, 1, 2])) fun r28 =>
    lt (mg σ22 [0, 1, 2] r28) fun σ29 =>
    some (σ29)
  else
    if a3 = 0 then
      X4_readAt_55 a2 a3 r23 σ22
    else
      bd (X8_byteAt r23 (mp σ22 [3, 4])) fun r26 =>
      if r26 = 45 then
        X4_readAt_56 a2 a3 r23 1 σ22
      else
        X4_readAt_55 a2 a3 r23 σ22
def X9_readCitation_131 (x1 : Int32) (σ : Mem) : Option (Int32 × Mem) := lt (up σ 0 11 1) fun σ1 =>
    lt (up σ1 0 12 x1) fun σ2 =>
    some (0, σ2)
def X9_readCitation_4 : Nat → Int32 → Int32 → Mem → Option (Int32 × Mem)
  | 0, _, _, _ => none
  | n + 1, x1, x2, σ => if (σ 5 2) ≤ x2 then
        some (0, σ)
      else
        bd (X6_formOf x2 (mp σ [5, 6, 7])) fun r4 =>
        bd (X4_readAt x1 r4 (mp σ [12, 13, 14, 1, 2])) fun r5 =>
        lt (mg σ [12, 13, 14, 1, 2] r5) fun σ6 =>
        if (σ6 12 2) = 0 then
          gd x2 4 <|
          lt (up σ6 31 (Int32.toNatClampNeg x2) (σ6 12 0)) fun σ9 =>
          lt (σ9 12 1) fun x1_10 =>
          if x1_10 = (σ9 1 1) then
            some (x2 + 1, σ9)
          else
            bd (X8_byteAt x1_10 (mp σ9 [1, 2])) fun r12 =>
            if r12 = 46 then
              if (x2 + 1) = (σ9 5 2) then
                X9_readCitation_131 x1_10 σ9
              else
                lt (x1_10 + 1) fun x1_15 =>
                lt (x2 + 1) fun x2_16 =>
                X9_readCitation_4 n x1_15 x2_16 σ9
            else
              X9_readCitation_131 x1_10 σ9
        else
          lt (up σ6 0 11 (σ6 12 2)) fun σ17 =>
          lt (up σ17 0 12 (σ17 12 3)) fun σ18 =>
          some (0, σ18)
def X9_readCitation (σ : Mem) : Option (Int32 × Mem) :=
  X9_readCitation_4 FU 0 0 σ
def X9_bearsPath_13 (a1 : Int32) (a2 : Int32) (σ : Mem) : Nat → Int32 → Int32 → Option (Int32)
  | 0, _, _ => none
  | n + 1, x3, x4 => if x4 < 0 then
        some (1)
      else
        bd (X3_has x3 (mp σ [15, 16, 17, 18, 19, 20])) fun r2 =>
        if r2 = 0 then
          some (1)
        else
          bd (X2_asOf x3 a2 (mp σ [21, 22, 23, 24, 25, 26, 32])) fun r4 =>
          gd x4 4 <|
          if r4 = (σ 31 (Int32.toNatClampNeg x4)) then
            gd x3 80 <|
            lt (σ 17 (Int32.toNatClampNeg x3)) fun x3_8 =>
            lt (x4 + (-1)) fun x4_9 =>
            X9_bearsPath_13 a1 a2 σ n x3_8 x4_9
          else
            some (0)
def X9_bearsPath (a1 : Int32) (a2 : Int32) (σ : Mem) : Option (Int32) :=
  gd a1 80 <|
  lt (σ 16 (Int32.toNatClampNeg a1)) fun x4_11 =>
  X9_bearsPath_13 a1 a2 σ FU a1 x4_11
def X9_cite_58 (a1 : Int32) : Nat → Int32 → Int32 → Int32 → Mem → Option (Int32 × Mem)
  | 0, _, _, _, _ => none
  | n + 1, x2, x3, x4, σ => if (σ 15 5) ≤ x4 then
        some (x3, σ)
      else
        gd x4 80 <|
        lt (σ 20 (Int32.toNatClampNeg x4)) fun x5_3 =>
        gd x5_3 80 <|
        if (σ 16 (Int32.toNatClampNeg x5_3)) = (x2 - 1) then
          bd (X9_bearsPath x5_3 a1 σ) fun r7 =>
          if r7 = 0 then
            lt (x4 + 1) fun x4_9 =>
            X9_cite_58 a1 n x2 x3 x4_9 σ
          else
            lt (up σ 0 13 ((σ 0 13) + 1)) fun σ10 =>
            if x3 = (-1) then
              lt (x4 + 1) fun x4_13 =>
              X9_cite_58 a1 n x2 x5_3 x4_13 σ10
            else
              lt (x4 + 1) fun x4_12 =>
              X9_cite_58 a1 n x2 x3 x4_12 σ10
        else
          lt (x4 + 1) fun x4_6 =>
          X9_cite_58 a1 n x2 x3 x4_6 σ
def X9_cite (a1 : Int32) (σ : Mem) : Option (Int32 × Mem) :=
  lt (up σ 0 11 0) fun σ14 =>
  lt (up σ14 0 12 (-1)) fun σ15 =>
  if 0 ≤ a1 then
    bd (X9_readCitation σ15) fun r17 =>
    lt (r17.2) fun σ18 =>
    lt (r17.1) fun x2_19 =>
    lt (up σ18 1 1 0) fun σ20 =>
    if (σ20 0 11) = 0 then
      lt (up σ20 0 13 0) fun σ22 =>
      X9_cite_58 a1 FU x2_19 (-1) 0 σ22
    else
      some ((-2), σ20)
  else
    lt (up σ15 1 1 0) fun σ23 =>
    some ((-3), σ23)
def X9_place (σ : Mem) : Option (Int32) :=
  some (σ 0 12)
def X9_bearers (σ : Mem) : Option (Int32) :=
  some (σ 0 13)
def X5_suffixOf_4 (a0 : Int32) : Nat → Int32 → Int32 → Option (Int32)
  | 0, _, _ => none
  | n + 1, x1, x2 => bd (X5_lettersIn a0) fun r1 =>
      if r1 ≤ x2 then
        some (x1)
      else
        bd (X5_letterOf a0 x2) fun r3 =>
        lt ((x1 <<< (8 &&& 31)) ||| (64 + r3)) fun x1_4 =>
        lt (x2 + 1) fun x2_5 =>
        X5_suffixOf_4 a0 n x1_4 x2_5
def X5_suffixOf (a0 : Int32) : Option (Int32) :=
  X5_suffixOf_4 a0 FU 0 0
def X9_read_76 (a1 : Int32) (x2 : Int32) (σ : Mem) : Option (Int32 × Mem) := lt (up σ 1 1 0) fun σ1 =>
    some (x2, σ1)
def X9_read (a1 : Int32) (σ : Mem) : Option (Int32 × Mem) :=
  if a1 < 0 then
    X9_read_76 a1 (-1) σ
  else
    if 4 ≤ a1 then
      X9_read_76 a1 (-1) σ
    else
      bd (X4_readAt 0 a1 (mp σ [12, 13, 14, 1, 2])) fun r4 =>
      lt (mg σ [12, 13, 14, 1, 2] r4) fun σ5 =>
      if (σ5 12 2) = 0 then
        if (σ5 12 1) = (σ5 1 1) then
          bd (X5_numberOf (σ5 12 0)) fun r8 =>
          bd (X5_suffixOf (σ5 12 0)) fun r9 =>
          lt (up σ5 0 14 r9) fun σ10 =>
          X9_read_76 a1 r8 σ10
        else
          X9_read_76 a1 (-1) σ5
      else
        X9_read_76 a1 (-1) σ5
def X9_suffix (σ : Mem) : Option (Int32) :=
  some (σ 0 14)
def X9_clash_2 (σ : Mem) : Nat → Int32 → Option (Int32)
  | 0, _ => none
  | n + 1, x1 => if (σ 15 5) ≤ x1 then
        some ((-1))
      else
        gd x1 80 <|
        lt (σ 20 (Int32.toNatClampNeg x1)) fun x2_3 =>
        gd x2_3 80 <|
        lt (σ 16 (Int32.toNatClampNeg x2_3)) fun x3_5 =>
        bd (X2_latest x2_3 (mp σ [21, 22, 23, 24, 25, 26, 32])) fun r6 =>
        if r6 = 0 then
          lt (x1 + 1) fun x1_13 =>
          X9_clash_2 σ n x1_13
        else
          gd x2_3 80 <|
          bd (X6_isThrough x3_5 (mp σ [5, 6, 7])) fun r9 =>
          bd (X9_labelAhead x1 x3_5 (σ 17 (Int32.toNatClampNeg x2_3)) r9 σ) fun r10 =>
          if r10 < r6 then
            lt (x1 + 1) fun x1_12 =>
            X9_clash_2 σ n x1_12
          else
            some (x2_3)
def X9_clash (σ : Mem) : Option (Int32) :=
  X9_clash_2 σ FU 0
def X9_at (a1 : Int32) (σ : Mem) : Option (Int32) :=
  if a1 < 0 then
    some ((-1))
  else
    if a1 < (σ 15 5) then
      gd a1 80 <|
      some (σ 20 (Int32.toNatClampNeg a1))
    else
      some ((-1))
def X9_count (a1 : Int32) (σ : Mem) : Option (Int32) :=
  if a1 = 0 then
    some (σ 5 2)
  else if a1 = 1 then
    some (σ 15 5)
  else if a1 = 2 then
    some (σ 15 6)
  else if a1 = 3 then
    some (σ 0 10)
  else if a1 = 4 then
    some (σ 27 4)
  else if a1 = 5 then
    some (σ 3 1)
  else if a1 = 6 then
    some (σ 1 1)
  else 
    some ((-1))
def X10_thrown (σ : Mem) : Option (Int32) :=
  some (σ 0 0)
def X10_throwsIf_10 (a1 : Int32) (y1 : Int32) (σ : Mem) : Option (Int32 × Mem) := lt (up σ 0 0 y1) fun σ1 =>
    gp (a1 = 0 ∨ a1 = 1) <|
    some (a1, σ1)
def X10_throwsIf (a1 : Int32) (σ : Mem) : Option (Int32 × Mem) :=
  if a1 = 0 then
    X10_throwsIf_10 a1 0 σ
  else
    X10_throwsIf_10 a1 1 σ
def X10_four_3 (a1 : Int32) : Nat → Int32 → Mem → Option (Mem)
  | 0, _, _ => none
  | n + 1, x2, σ => if x2 < 0 then
        some (σ)
      else
        gd (σ 0 2) 200 <|
        lt (up σ 1 (Int32.toNatClampNeg (σ 0 2)) (vp_nar .byte (Int8.toInt32 (Int32.toInt8 (a1 >>> (x2 &&& 31)))))) fun σ3 =>
        lt (up σ3 0 2 ((σ3 0 2) + 1)) fun σ4 =>
        lt (x2 + (-8)) fun x2_5 =>
        X10_four_3 a1 n x2_5 σ4
def X10_four (a1 : Int32) (σ : Mem) : Option (Mem) :=
  X10_four_3 a1 FU 24 σ
def X10_feed (a1 : Int32) (a2 : Int32) (a3 : Int32) (a4 : Int32) (a5 : Int32) (σ : Mem) : Option (Int32 × Mem) :=
  lt (up σ 0 0 0) fun σ1 =>
  if ((σ1 0 2) + 20) ≤ 200 then
    bd (X10_four a1 σ1) fun r3 =>
    lt (r3) fun σ4 =>
    bd (X10_four a2 σ4) fun r5 =>
    lt (r5) fun σ6 =>
    bd (X10_four a3 σ6) fun r7 =>
    lt (r7) fun σ8 =>
    bd (X10_four a4 σ8) fun r9 =>
    lt (r9) fun σ10 =>
    bd (X10_four a5 σ10) fun r11 =>
    lt (r11) fun σ12 =>
    some (σ12 0 2, σ12)
  else
    some ((-1), σ1)
def X10_end (a1 : Int32) (σ : Mem) : Option (Int32 × Mem) :=
  lt (up σ 0 0 0) fun σ1 =>
  if a1 < 0 then
    some (0, σ1)
  else
    if a1 ≤ (σ1 0 2) then
      lt (up σ1 0 2 a1) fun σ4 =>
      some (1, σ4)
    else
      some (0, σ1)
def X10_taken (σ : Mem) : Option (Mem) :=
  lt (up σ 0 3 (σ 0 2)) fun σ1 =>
  lt (up σ1 0 2 0) fun σ2 =>
  lt (up σ2 0 4 0) fun σ3 =>
  some (σ3)
def X10_peek (σ : Mem) : Option (Int32) :=
  if (σ 0 3) ≤ (σ 0 4) then
    some ((-1))
  else
    gd (σ 0 4) 200 <|
    some ((σ 1 (Int32.toNatClampNeg (σ 0 4))) &&& 255)
def X10_wrong (a1 : Int32) (a2 : Int32) (σ : Mem) : Option (Int32 × Mem) :=
  lt (up σ 0 12 a1) fun σ1 =>
  lt (up σ1 0 13 a2) fun σ2 =>
  some (0, σ2)
def X10_isSmall (a0 : Int32) : Option (Int32) :=
  if a0 < 97 then
    some (0)
  else
    if 122 < a0 then
      some (0)
    else
      some (1)
def X10_isGreat (a0 : Int32) : Option (Int32) :=
  if a0 < 65 then
    some (0)
  else
    if 90 < a0 then
      some (0)
    else
      some (1)
def X10_isDigit (a0 : Int32) : Option (Int32) :=
  if a0 < 48 then
    some (0)
  else
    if 57 < a0 then
      some (0)
    else
      some (1)
def X10_next_153 (σ : Mem) (w : Int64) : Option (Mem × Int64) := lt (1) fun w1 =>
    some (σ, w1)
def X10_next_126 (k93 : (Int32 → Mem → Int64 → Option (Mem × Int64))) (x2 : Int32) (σ : Mem) (w : Int64) : Option (Mem × Int64) := lt (x2 + 1) fun x2_2 =>
        lt (up σ 0 4 ((σ 0 4) + 1)) fun σ3 =>
        k93 x2_2 σ3 w
def X10_next_93 : Nat → Int32 → Mem → Int64 → Option (Mem × Int64)
  | 0, _, _, _ => none
  | n + 1, x2, σ, w => bd (X10_peek σ) fun r4 =>
      bd (X10_isSmall r4) fun r5 =>
      if r5 = 0 then
        if 7 < x2 then
          X10_next_153 σ w
        else
          if 2 ≤ x2 then
            some (σ, w)
          else
            X10_next_153 σ w
      else
        if 7 ≤ x2 then
          X10_next_126 (X10_next_93 n) x2 σ w
        else
          bd (X10_peek σ) fun r10 =>
          lt ((w <<< (Int32.toInt64 8 &&& 63)) ||| (Int32.toInt64 r10)) fun w11 =>
          X10_next_126 (X10_next_93 n) x2 σ w11
def X10_next_77 (y1 : Int64) (σ : Mem) (w : Int64) : Option (Mem × Int64) := lt (y1) fun w12 =>
    lt (up σ 0 4 ((σ 0 4) + 1)) fun σ13 =>
    some (σ13, w12)
def X10_next_18 (k0 : (Mem → Int64 → Option (Mem × Int64))) (σ : Mem) (w : Int64) : Option (Mem × Int64) := lt (up σ 0 4 ((σ 0 4) + 1)) fun σ14 =>
        k0 σ14 w
def X10_next_0 : Nat → Mem → Int64 → Option (Mem × Int64)
  | 0, _, _ => none
  | n + 1, σ, w => bd (X10_peek σ) fun r15 =>
      if r15 = 32 then
        X10_next_18 (X10_next_0 n) σ w
      else
        bd (X10_peek σ) fun r17 =>
        if r17 = 10 then
          X10_next_18 (X10_next_0 n) σ w
        else
          lt (up σ 0 15 (σ 0 4)) fun σ19 =>
          lt (0) fun w20 =>
          bd (X10_peek σ19) fun r21 =>
          if 0 ≤ r21 then
            bd (X10_isSmall r21) fun r23 =>
            if r23 = 0 then
              if r21 = 59 then
                X10_next_77 59 σ19 w20
              else
                X10_next_77 (-1) σ19 w20
            else
              X10_next_93 FU 0 σ19 w20
          else
            some (σ19, w20)
def X10_next (σ : Mem) (w : Int64) : Option (Mem × Int64) :=
  X10_next_0 FU σ w
def X10_cant_17 (y1 : Int32) (σ : Mem) (w : Int64) : Option (Int32 × Mem × Int64) := bd (X10_wrong y1 (σ 0 15) σ) fun r1 =>
    lt (r1.2) fun σ2 =>
    gp (r1.1 = 0 ∨ r1.1 = 1) <|
    some (r1.1, σ2, w)
def X10_cant (σ : Mem) (w : Int64) : Option (Int32 × Mem × Int64) :=
  if (lg_cmp w (-1)) = 0 then
    X10_cant_17 1 σ w
  else
    X10_cant_17 2 σ w
def X10_formOf (σ : Mem) (w : Int64) : Option (Int32) :=
  if (lg_cmp w 121450625394034) = 0 then
    some (0)
  else
    if (lg_cmp w 491495711086) = 0 then
      some (1)
    else
      if (lg_cmp w 119183001281906) = 0 then
        some (2)
      else
        if (lg_cmp w 495756340332) = 0 then
          some (3)
        else
          some ((-1))
def X10_readLevels_112 (k9 : (Mem → Int64 → Option (Int32 × Mem × Int64))) (σ : Mem) (w : Int64) : Option (Int32 × Mem × Int64) := if (lg_cmp w 59) = 0 then
          lt (up σ 0 10 ((σ 0 10) + 1)) fun σ2 =>
          bd (X10_next σ2 w) fun r3 =>
          lt (r3.1) fun σ4 =>
          lt (r3.2) fun w5 =>
          k9 σ4 w5
        else
          bd (X10_cant σ w) fun r6 =>
          lt (r6.2.1) fun σ7 =>
          lt (r6.2.2) fun w8 =>
          gp (r6.1 = 0 ∨ r6.1 = 1) <|
          some (r6.1, σ7, w8)
def X10_readLevels_95 (k9 : (Mem → Int64 → Option (Int32 × Mem × Int64))) (y1 : Int32) (y2 : Int32) (σ : Mem) (w : Int64) : Option (Int32 × Mem × Int64) := gd y1 4 <|
        lt (up σ 5 (Int32.toNatClampNeg y1) (vp_nar .boolean y2)) fun σ11 =>
        gd (σ11 0 10) 4 <|
        if (σ11 5 (Int32.toNatClampNeg (σ11 0 10))) = 0 then
          X10_readLevels_112 (k9) σ11 w
        else
          bd (X10_next σ11 w) fun r14 =>
          lt (r14.1) fun σ15 =>
          lt (r14.2) fun w16 =>
          X10_readLevels_112 (k9) σ15 w16
def X10_readLevels_25 (k9 : (Mem → Int64 → Option (Int32 × Mem × Int64))) (σ : Mem) (w : Int64) : Option (Int32 × Mem × Int64) := bd (X10_formOf σ w) fun r17 =>
        if 0 ≤ r17 then
          if (σ 0 10) = 4 then
            bd (X10_wrong 3 (σ 0 15) σ) fun r26 =>
            lt (r26.2) fun σ27 =>
            gp (r26.1 = 0 ∨ r26.1 = 1) <|
            some (r26.1, σ27, w)
          else
            bd (X10_next σ w) fun r20 =>
            lt (r20.1) fun σ21 =>
            lt (r20.2) fun w22 =>
            gd (σ21 0 10) 4 <|
            lt (up σ21 3 (Int32.toNatClampNeg (σ21 0 10)) r17) fun σ24 =>
            if (lg_cmp w22 32765938003961704) = 0 then
              X10_readLevels_95 (k9) (σ24 0 10) 1 σ24 w22
            else
              X10_readLevels_95 (k9) (σ24 0 10) 0 σ24 w22
        else
          bd (X10_cant σ w) fun r29 =>
          lt (r29.2.1) fun σ30 =>
          lt (r29.2.2) fun w31 =>
          gp (r29.1 = 0 ∨ r29.1 = 1) <|
          some (r29.1, σ30, w31)
def X10_readLevels_9 : Nat → Mem → Int64 → Option (Int32 × Mem × Int64)
  | 0, _, _ => none
  | n + 1, σ, w => if (lg_cmp w 0) = 0 then
        if (σ 0 10) = 0 then
          X10_readLevels_25 (X10_readLevels_9 n) σ w
        else
          some (1, σ, w)
      else
        X10_readLevels_25 (X10_readLevels_9 n) σ w
def X10_readLevels (σ : Mem) (w : Int64) : Option (Int32 × Mem × Int64) :=
  lt (up σ 0 10 0) fun σ35 =>
  bd (X10_next σ35 w) fun r36 =>
  lt (r36.1) fun σ37 =>
  lt (r36.2) fun w38 =>
  X10_readLevels_9 FU σ37 w38
def X10_levels_43 : Nat → Int32 → Mem → Int64 → Option (Int32 × Mem × Int64)
  | 0, _, _, _ => none
  | n + 1, x1, σ, w => if (σ 0 9) ≤ x1 then
        lt (up σ 0 21 0) fun σ2 =>
        lt (up σ2 0 25 0) fun σ3 =>
        lt (up σ3 0 29 0) fun σ4 =>
        lt (up σ4 0 11 0) fun σ5 =>
        some (σ5 0 9, σ5, w)
      else
        gd x1 4 <|
        gd x1 4 <|
        lt (up σ 2 (Int32.toNatClampNeg x1) (σ 3 (Int32.toNatClampNeg x1))) fun σ8 =>
        gd x1 4 <|
        gd x1 4 <|
        lt (up σ8 4 (Int32.toNatClampNeg x1) (vp_nar .boolean (σ8 5 (Int32.toNatClampNeg x1)))) fun σ11 =>
        lt (x1 + 1) fun x1_12 =>
        X10_levels_43 n x1_12 σ11 w
def X10_levels (σ : Mem) (w : Int64) : Option (Int32 × Mem × Int64) :=
  lt (up σ 0 0 0) fun σ13 =>
  bd (X10_taken σ13) fun r14 =>
  lt (r14) fun σ15 =>
  lt (up σ15 0 12 0) fun σ16 =>
  lt (up σ16 0 13 (-1)) fun σ17 =>
  bd (X10_readLevels σ17 w) fun r18 =>
  lt (r18.2.1) fun σ19 =>
  lt (r18.2.2) fun w20 =>
  if r18.1 = 0 then
    some ((-1) - (σ19 0 13), σ19, w20)
  else
    lt (up σ19 0 9 (σ19 0 10)) fun σ22 =>
    X10_levels_43 FU 0 σ22 w20
def X10_fault (σ : Mem) : Option (Int32 × Mem) :=
  lt (up σ 0 0 0) fun σ1 =>
  some (σ1 0 12, σ1)
def X10_place (σ : Mem) : Option (Int32 × Mem) :=
  lt (up σ 0 0 0) fun σ1 =>
  some (σ1 0 13, σ1)
def X10_isItem (a1 : Int32) (σ : Mem) : Option (Int32) :=
  if a1 < 0 then
    some (0)
  else
    if (σ 0 21) ≤ a1 then
      some (0)
    else
      some (1)
def X10_placeOf_2 (a1 : Int32) (σ : Mem) : Nat → Int32 → Option (Int32)
  | 0, _ => none
  | n + 1, x2 => gd x2 80 <|
      if (σ 9 (Int32.toNatClampNeg x2)) = a1 then
        some (x2)
      else
        lt (x2 + 1) fun x2_3 =>
        X10_placeOf_2 a1 σ n x2_3
def X10_placeOf (a1 : Int32) (σ : Mem) : Option (Int32) :=
  X10_placeOf_2 a1 σ FU 0
def X10_isUnder_26 (a1 : Int32) (a2 : Int32) (σ : Mem) (x3 : Int32) : Option (Int32) := if x3 = a2 then
      some (1)
    else
      some (0)
def X10_isUnder_7 (a1 : Int32) (a2 : Int32) (σ : Mem) : Nat → Int32 → Option (Int32)
  | 0, _ => none
  | n + 1, x3 => if x3 < 0 then
        X10_isUnder_26 a1 a2 σ x3
      else
        if x3 = a2 then
          X10_isUnder_26 a1 a2 σ x3
        else
          gd x3 80 <|
          lt (σ 7 (Int32.toNatClampNeg x3)) fun x3_5 =>
          X10_isUnder_7 a1 a2 σ n x3_5
def X10_isUnder (a1 : Int32) (a2 : Int32) (σ : Mem) : Option (Int32) :=
  gd a1 80 <|
  lt (σ 7 (Int32.toNatClampNeg a1)) fun x3_7 =>
  X10_isUnder_7 a1 a2 σ FU x3_7
def X10_isInRow (a1 : Int32) (a2 : Int32) (σ : Mem) : Option (Int32) :=
  gd a1 80 <|
  gd a2 80 <|
  if (σ 6 (Int32.toNatClampNeg a1)) = (σ 6 (Int32.toNatClampNeg a2)) then
    gd a2 80 <|
    gd (σ 6 (Int32.toNatClampNeg a2)) 4 <|
    if (σ 4 (Int32.toNatClampNeg (σ 6 (Int32.toNatClampNeg a2)))) = 0 then
      gd a1 80 <|
      gd a2 80 <|
      if (σ 7 (Int32.toNatClampNeg a1)) = (σ 7 (Int32.toNatClampNeg a2)) then
        some (1)
      else
        some (0)
    else
      some (1)
  else
    some (0)
def X10_change (a1 : Int32) (a2 : Int32) (σ : Mem) : Option (Mem) :=
  gd (σ 0 25) 165000 <|
  lt (up σ 11 (Int32.toNatClampNeg (σ 0 25)) a1) fun σ2 =>
  gd (σ2 0 25) 165000 <|
  lt (up σ2 12 (Int32.toNatClampNeg (σ2 0 25)) (σ2 0 11)) fun σ4 =>
  gd (σ4 0 25) 165000 <|
  lt (up σ4 13 (Int32.toNatClampNeg (σ4 0 25)) a2) fun σ6 =>
  lt (up σ6 0 25 ((σ6 0 25) + 1)) fun σ7 =>
  some (σ7)
def X10_labelOf_7 (a1 : Int32) (a2 : Int32) (σ : Mem) : Nat → Int32 → Option (Int32)
  | 0, _ => none
  | n + 1, x3 => if x3 < 0 then
        some (0)
      else
        gd x3 165000 <|
        if (σ 11 (Int32.toNatClampNeg x3)) = a1 then
          gd x3 165000 <|
          if a2 < (σ 12 (Int32.toNatClampNeg x3)) then
            lt (x3 + (-1)) fun x3_7 =>
            X10_labelOf_7 a1 a2 σ n x3_7
          else
            gd x3 165000 <|
            some (σ 13 (Int32.toNatClampNeg x3))
        else
          lt (x3 + (-1)) fun x3_4 =>
          X10_labelOf_7 a1 a2 σ n x3_4
def X10_labelOf (a1 : Int32) (a2 : Int32) (σ : Mem) : Option (Int32) :=
  lt ((σ 0 25) - 1) fun x3_9 =>
  X10_labelOf_7 a1 a2 σ FU x3_9
def X10_act_75 (a1 : Int32) (a2 : Int32) (σ : Mem) : Option (Mem) := gd (σ 0 29) 100 <|
    lt (up σ 14 (Int32.toNatClampNeg (σ 0 29)) a1) fun σ2 =>
    gd (σ2 0 29) 100 <|
    lt (up σ2 15 (Int32.toNatClampNeg (σ2 0 29)) a2) fun σ4 =>
    gd (σ4 0 29) 100 <|
    lt (up σ4 16 (Int32.toNatClampNeg (σ4 0 29)) (σ4 0 25)) fun σ6 =>
    lt (up σ6 0 29 ((σ6 0 29) + 1)) fun σ7 =>
    some (σ7)
def X10_act_11 (a1 : Int32) (a2 : Int32) : Nat → Int32 → Mem → Option (Mem)
  | 0, _, _ => none
  | n + 1, x3, σ => if 100 ≤ x3 then
        lt (up σ 0 29 ((σ 0 29) - 1)) fun σ9 =>
        X10_act_75 a1 a2 σ9
      else
        gd x3 100 <|
        gd (x3 - 1) 100 <|
        lt (up σ 14 (Int32.toNatClampNeg (x3 - 1)) (σ 14 (Int32.toNatClampNeg x3))) fun σ12 =>
        gd x3 100 <|
        gd (x3 - 1) 100 <|
        lt (up σ12 15 (Int32.toNatClampNeg (x3 - 1)) (σ12 15 (Int32.toNatClampNeg x3))) fun σ15 =>
        gd x3 100 <|
        gd (x3 - 1) 100 <|
        lt (up σ15 16 (Int32.toNatClampNeg (x3 - 1)) (σ15 16 (Int32.toNatClampNeg x3))) fun σ18 =>
        lt (x3 + 1) fun x3_19 =>
        X10_act_11 a1 a2 n x3_19 σ18
def X10_act (a1 : Int32) (a2 : Int32) (σ : Mem) : Option (Mem) :=
  if (σ 0 29) = 100 then
    X10_act_11 a1 a2 FU 1 σ
  else
    X10_act_75 a1 a2 σ
def X10_letterAt_4 (a0 : Int32) (a1 : Int32) : Nat → Int32 → Int32 → Option (Int32)
  | 0, _, _ => none
  | n + 1, x2, x3 => if 3 ≤ x3 then
        some (x2 - x2 / 27 * 27)
      else
        lt (x2 / 27) fun x2_2 =>
        lt (x3 + 1) fun x3_3 =>
        X10_letterAt_4 a0 a1 n x2_2 x3_3
def X10_letterAt (a0 : Int32) (a1 : Int32) : Option (Int32) :=
  X10_letterAt_4 a0 a1 FU a0 a1
def X10_lettersOf_2 (a0 : Int32) : Nat → Int32 → Option (Int32)
  | 0, _ => none
  | n + 1, x1 => if 4 ≤ x1 then
        some (x1)
      else
        bd (X10_letterAt a0 x1) fun r2 =>
        if r2 ≤ 0 then
          some (x1)
        else
          lt (x1 + 1) fun x1_4 =>
          X10_lettersOf_2 a0 n x1_4
def X10_lettersOf (a0 : Int32) : Option (Int32) :=
  X10_lettersOf_2 a0 FU 0
def X10_suffixInHand (σ : Mem) : Option (Int32) :=
  gd 0 4 <|
  gd 1 4 <|
  gd 2 4 <|
  gd 3 4 <|
  some (((((((σ 17 (Int32.toNatClampNeg 0)) * 27) + (σ 17 (Int32.toNatClampNeg 1))) * 27) + (σ 17 (Int32.toNatClampNeg 2))) * 27) + (σ 17 (Int32.toNatClampNeg 3)))
def X10_least_180 (a1 : Int32) (a2 : Int32) (x3 : Int32) (y1 : Int32) (y2 : Int32) (σ : Mem) : Option (Int32 × Mem) := gd y1 4 <|
    lt (up σ 17 (Int32.toNatClampNeg y1) y2) fun σ2 =>
    bd (X10_suffixInHand σ2) fun r3 =>
    some ((x3 * 531441) + r3, σ2)
def X10_least_124 (a1 : Int32) (a2 : Int32) : Nat → Int32 → Int32 → Int32 → Int32 → Mem → Option (Int32 × Mem)
  | 0, _, _, _, _, _ => none
  | n + 1, x3, x4, x5, x6, σ => if x5 ≤ x6 then
        if a2 ≤ x4 then
          bd (X10_letterAt (a1 - a1 / 531441 * 531441) x5) fun r6 =>
          X10_least_180 a1 a2 x3 x5 (r6 + 1) σ
        else
          X10_least_180 a1 a2 x3 x5 1 σ
      else
        bd (X10_letterAt (a1 - a1 / 531441 * 531441) x6) fun r7 =>
        gd x6 4 <|
        lt (up σ 17 (Int32.toNatClampNeg x6) r7) fun σ9 =>
        lt (x6 + 1) fun x6_10 =>
        X10_least_124 a1 a2 n x3 x4 x5 x6_10 σ9
def X10_least_116 (a1 : Int32) (a2 : Int32) (x3 : Int32) (x4 : Int32) (x5 : Int32) (σ : Mem) : Option (Int32 × Mem) := if x5 < 0 then
      if x3 = 999 then
        some (0, σ)
      else
        bd (X10_suffixInHand σ) fun r13 =>
        some (((x3 + 1) * 531441) + r13, σ)
    else
      X10_least_124 a1 a2 FU x3 x4 x5 0 σ
def X10_least_106 (a1 : Int32) (a2 : Int32) (x3 : Int32) (x4 : Int32) (x5 : Int32) (σ : Mem) : Option (Int32 × Mem) := if a2 ≤ x4 then
      X10_least_116 a1 a2 x3 x4 x5 σ
    else
      X10_least_116 a1 a2 x3 x4 x4 σ
def X10_least_71 (a1 : Int32) (a2 : Int32) : Nat → Int32 → Int32 → Int32 → Int32 → Mem → Option (Int32 × Mem)
  | 0, _, _, _, _, _ => none
  | n + 1, x3, x4, x5, x6, σ => if a2 ≤ x6 then
        X10_least_106 a1 a2 x3 x4 x5 σ
      else
        bd (X10_letterAt (a1 - a1 / 531441 * 531441) x6) fun r16 =>
        if 26 ≤ r16 then
          lt (x6 + 1) fun x6_18 =>
          X10_least_71 a1 a2 n x3 x4 x5 x6_18 σ
        else
          lt (x6 + 1) fun x6_19 =>
          X10_least_71 a1 a2 n x3 x4 x6 x6_19 σ
def X10_least_40 (a1 : Int32) (a2 : Int32) (k17 : (Int32 → Int32 → Int32 → Mem → Option (Int32 × Mem))) (x3 : Int32) (x4 : Int32) (x5 : Int32) (y1 : Int32) (y2 : Int32) (σ : Mem) : Option (Int32 × Mem) := gd y1 4 <|
        lt (up σ 17 (Int32.toNatClampNeg y1) y2) fun σ21 =>
        lt (x5 + 1) fun x5_22 =>
        k17 x3 x4 x5_22 σ21
def X10_least_17 (a1 : Int32) (a2 : Int32) : Nat → Int32 → Int32 → Int32 → Mem → Option (Int32 × Mem)
  | 0, _, _, _, _ => none
  | n + 1, x3, x4, x5, σ => if 4 ≤ x5 then
        if a1 = 0 then
          bd (X10_suffixInHand σ) fun r26 =>
          some (531441 + r26, σ)
        else
          if x4 < a2 then
            X10_least_106 a1 a2 x3 x4 (-1) σ
          else
            X10_least_71 a1 a2 FU x3 x4 (-1) 0 σ
      else
        if a2 ≤ x5 then
          X10_least_40 a1 a2 (X10_least_17 a1 a2 n) x3 x4 x5 x5 0 σ
        else
          X10_least_40 a1 a2 (X10_least_17 a1 a2 n) x3 x4 x5 x5 1 σ
def X10_least (a1 : Int32) (a2 : Int32) (σ : Mem) : Option (Int32 × Mem) :=
  lt (a1 / 531441) fun x3_28 =>
  bd (X10_lettersOf (a1 - a1 / 531441 * 531441)) fun r29 =>
  X10_least_17 a1 a2 FU x3_28 r29 0 σ
def X10_add_352 (a1 : Int32) (a2 : Int32) : Nat → Int32 → Int32 → Int32 → Int32 → Mem → Option (Int32 × Mem)
  | 0, _, _, _, _, _ => none
  | n + 1, x3, x4, x7, x8, σ => if x8 ≤ x4 then
        gd x4 80 <|
        lt (up σ 9 (Int32.toNatClampNeg x4) x3) fun σ3 =>
        gd x3 80 <|
        lt (up σ3 10 (Int32.toNatClampNeg x3) (vp_nar .boolean 0)) fun σ5 =>
        gd x3 80 <|
        lt (up σ5 8 (Int32.toNatClampNeg x3) (σ5 0 11)) fun σ7 =>
        lt (up σ7 0 21 ((σ7 0 21) + 1)) fun σ8 =>
        bd (X10_change x3 x7 σ8) fun r9 =>
        lt (r9) fun σ10 =>
        some (x3, σ10)
      else
        gd (x8 - 1) 80 <|
        gd x8 80 <|
        lt (up σ 9 (Int32.toNatClampNeg x8) (σ 9 (Int32.toNatClampNeg (x8 - 1)))) fun σ13 =>
        lt (x8 + (-1)) fun x8_14 =>
        X10_add_352 a1 a2 n x3 x4 x7 x8_14 σ13
def X10_add_332 (a1 : Int32) (a2 : Int32) (x3 : Int32) (x4 : Int32) (x7 : Int32) (σ : Mem) : Option (Int32 × Mem) := if x7 = 0 then
      some ((-2), σ)
    else
      bd (X10_act 0 x3 σ) fun r16 =>
      lt (r16) fun σ17 =>
      lt (σ17 0 21) fun x8_18 =>
      X10_add_352 a1 a2 FU x3 x4 x7 x8_18 σ17
def X10_add_295 (a1 : Int32) (a2 : Int32) : Nat → Int32 → Int32 → Int32 → Int32 → Int32 → Int32 → Mem → Option (Int32 × Mem)
  | 0, _, _, _, _, _, _, _ => none
  | n + 1, x3, x4, x5, x6, x7, x8, σ => if 5 ≤ x8 then
        X10_add_332 a1 a2 x3 x4 x7 σ
      else
        if x7 = 0 then
          bd (X10_least x5 x8 σ) fun r21 =>
          lt (r21.2) fun σ22 =>
          lt (r21.1) fun x7_23 =>
          if x7_23 < x6 then
            lt (x8 + 1) fun x8_25 =>
            X10_add_295 a1 a2 n x3 x4 x5 x6 x7_23 x8_25 σ22
          else
            lt (x8 + 1) fun x8_26 =>
            X10_add_295 a1 a2 n x3 x4 x5 x6 0 x8_26 σ22
        else
          X10_add_332 a1 a2 x3 x4 x7 σ
def X10_add_287 (a1 : Int32) (a2 : Int32) (x3 : Int32) (x4 : Int32) (y0 : Int32) (σ : Mem) : Option (Int32 × Mem) := X10_add_332 a1 a2 x3 x4 y0 σ
def X10_add_173 (a1 : Int32) (a2 : Int32) : Nat → Int32 → Int32 → Int32 → Int32 → Int32 → Mem → Option (Int32 × Mem)
  | 0, _, _, _, _, _, _ => none
  | n + 1, x3, x4, x5, x6, x7, σ => if (σ 0 21) ≤ x7 then
        if x6 = 0 then
          if (x5 / 531441) = 999 then
            X10_add_287 a1 a2 x3 x4 0 σ
          else
            X10_add_287 a1 a2 x3 x4 (((x5 / 531441) + 1) * 531441) σ
        else
          X10_add_295 a1 a2 FU x3 x4 x5 x6 0 0 σ
      else
        gd x7 80 <|
        bd (X10_isInRow (σ 9 (Int32.toNatClampNeg x7)) x3 σ) fun r31 =>
        if r31 = 0 then
          lt (x7 + 1) fun x7_42 =>
          X10_add_173 a1 a2 n x3 x4 x5 x6 x7_42 σ
        else
          gd x7 80 <|
          bd (X10_labelOf (σ 9 (Int32.toNatClampNeg x7)) (σ 0 11) σ) fun r34 =>
          if r34 = 0 then
            lt (x7 + 1) fun x7_41 =>
            X10_add_173 a1 a2 n x3 x4 x5 x6 x7_41 σ
          else
            if x4 ≤ x7 then
              if x6 = 0 then
                lt (x7 + 1) fun x7_39 =>
                X10_add_173 a1 a2 n x3 x4 x5 r34 x7_39 σ
              else
                lt (x7 + 1) fun x7_38 =>
                X10_add_173 a1 a2 n x3 x4 x5 x6 x7_38 σ
            else
              lt (x7 + 1) fun x7_40 =>
              X10_add_173 a1 a2 n x3 x4 r34 x6 x7_40 σ
def X10_add_164 (a1 : Int32) (a2 : Int32) (x3 : Int32) (x4 : Int32) (σ : Mem) : Option (Int32 × Mem) := X10_add_173 a1 a2 FU x3 x4 0 0 0 σ
def X10_add_134 (a1 : Int32) (a2 : Int32) : Nat → Int32 → Int32 → Mem → Option (Int32 × Mem)
  | 0, _, _, _ => none
  | n + 1, x3, x4, σ => if (σ 0 21) ≤ x4 then
        X10_add_164 a1 a2 x3 x4 σ
      else
        gd x4 80 <|
        bd (X10_isUnder (σ 9 (Int32.toNatClampNeg x4)) a2 σ) fun r45 =>
        if r45 = 0 then
          X10_add_164 a1 a2 x3 x4 σ
        else
          lt (x4 + 1) fun x4_47 =>
          X10_add_134 a1 a2 n x3 x4_47 σ
def X10_add_118 (a1 : Int32) (a2 : Int32) (x3 : Int32) (y0 : Int32) (σ : Mem) : Option (Int32 × Mem) := if a2 = (-1) then
      X10_add_164 a1 a2 x3 y0 σ
    else
      bd (X10_placeOf a2 σ) fun r49 =>
      lt (r49 + 1) fun x4_50 =>
      X10_add_134 a1 a2 FU x3 x4_50 σ
def X10_add_94 (a1 : Int32) (a2 : Int32) (x3 : Int32) (y1 : Int32) (y2 : Int32) (σ : Mem) : Option (Int32 × Mem) := gd y1 80 <|
    lt (up σ 6 (Int32.toNatClampNeg y1) y2) fun σ52 =>
    gd x3 80 <|
    lt (up σ52 7 (Int32.toNatClampNeg x3) a1) fun σ54 =>
    if a1 = (-1) then
      X10_add_118 a1 a2 x3 0 σ54
    else
      bd (X10_placeOf a1 σ54) fun r56 =>
      X10_add_118 a1 a2 x3 (r56 + 1) σ54
def X10_add_67 (a1 : Int32) (a2 : Int32) (σ : Mem) : Option (Int32 × Mem) := lt (σ 0 21) fun x3_57 =>
    if a1 = (-1) then
      X10_add_94 a1 a2 x3_57 x3_57 0 σ
    else
      gd a1 80 <|
      X10_add_94 a1 a2 x3_57 x3_57 ((σ 6 (Int32.toNatClampNeg a1)) + 1) σ
def X10_add_42 (a1 : Int32) (a2 : Int32) (σ : Mem) : Option (Int32 × Mem) := if a2 = (-1) then
      X10_add_67 a1 a2 σ
    else
      bd (X10_isItem a2 σ) fun r61 =>
      if r61 = 0 then
        some ((-1), σ)
      else
        gd a2 80 <|
        if (σ 7 (Int32.toNatClampNeg a2)) = a1 then
          X10_add_67 a1 a2 σ
        else
          some ((-1), σ)
def X10_add (a1 : Int32) (a2 : Int32) (σ : Mem) : Option (Int32 × Mem) :=
  lt (up σ 0 0 0) fun σ65 =>
  if (σ65 0 21) = 80 then
    some ((-1), σ65)
  else
    if a1 = (-1) then
      X10_add_42 a1 a2 σ65
    else
      bd (X10_isItem a1 σ65) fun r68 =>
      if r68 = 0 then
        some ((-1), σ65)
      else
        gd a1 80 <|
        if (σ65 6 (Int32.toNatClampNeg a1)) = ((σ65 0 9) - 1) then
          some ((-1), σ65)
        else
          X10_add_42 a1 a2 σ65
def X10_strike (a1 : Int32) (σ : Mem) : Option (Int32 × Mem) :=
  lt (up σ 0 0 0) fun σ1 =>
  bd (X10_isItem a1 σ1) fun r2 =>
  if r2 = 0 then
    some (0, σ1)
  else
    gd a1 80 <|
    if (σ1 10 (Int32.toNatClampNeg a1)) = 0 then
      bd (X10_act 1 a1 σ1) fun r6 =>
      lt (r6) fun σ7 =>
      gd a1 80 <|
      lt (up σ7 10 (Int32.toNatClampNeg a1) (vp_nar .boolean 1)) fun σ9 =>
      some (1, σ9)
    else
      some (0, σ1)
def X10_renumber_88 (a1 : Int32) (k25 : (Int32 → Int32 → Mem → Option (Int32 × Mem))) (x2 : Int32) (x3 : Int32) (y1 : Int32) (y2 : Int32) (σ : Mem) : Option (Int32 × Mem) := bd (X10_change y1 y2 σ) fun r1 =>
        lt (r1) fun σ2 =>
        lt (x3 + 1) fun x3_3 =>
        k25 x2 x3_3 σ2
def X10_renumber_67 (a1 : Int32) (k25 : (Int32 → Int32 → Mem → Option (Int32 × Mem))) (x2 : Int32) (x3 : Int32) (x4 : Int32) (σ : Mem) : Option (Int32 × Mem) := gd x4 80 <|
        if (σ 10 (Int32.toNatClampNeg x4)) = 0 then
          X10_renumber_88 a1 (k25) x2 x3 x4 (x2 * 531441) σ
        else
          X10_renumber_88 a1 (k25) x2 x3 x4 0 σ
def X10_renumber_25 (a1 : Int32) : Nat → Int32 → Int32 → Mem → Option (Int32 × Mem)
  | 0, _, _, _ => none
  | n + 1, x2, x3, σ => if (σ 0 21) ≤ x3 then
        some (1, σ)
      else
        gd x3 80 <|
        lt (σ 9 (Int32.toNatClampNeg x3)) fun x4_8 =>
        bd (X10_isInRow x4_8 a1 σ) fun r9 =>
        if r9 = 0 then
          lt (x3 + 1) fun x3_14 =>
          X10_renumber_25 a1 n x2 x3_14 σ
        else
          gd x4_8 80 <|
          if (σ 10 (Int32.toNatClampNeg x4_8)) = 0 then
            lt (x2 + 1) fun x2_13 =>
            X10_renumber_67 a1 (X10_renumber_25 a1 n) x2_13 x3 x4_8 σ
          else
            X10_renumber_67 a1 (X10_renumber_25 a1 n) x2 x3 x4_8 σ
def X10_renumber (a1 : Int32) (σ : Mem) : Option (Int32 × Mem) :=
  lt (up σ 0 0 0) fun σ15 =>
  bd (X10_isItem a1 σ15) fun r16 =>
  if r16 = 0 then
    some (0, σ15)
  else
    bd (X10_act 2 a1 σ15) fun r18 =>
    lt (r18) fun σ19 =>
    X10_renumber_25 a1 FU 0 0 σ19
def X10_error_85 (a1 : Int32) (a2 : Int32) (a3 : Int32) (k57 : (Int32 → Int32 → Mem → Option (Int32 × Mem))) (x4 : Int32) (x5 : Int32) (x6 : Int32) (σ : Mem) : Option (Int32 × Mem) := bd (X10_isGreat x6) fun r1 =>
        if r1 = 0 then
          some (0, σ)
        else
          gd x4 4 <|
          lt (up σ 17 (Int32.toNatClampNeg x4) (x6 - 64)) fun σ4 =>
          lt (x4 + 1) fun x4_5 =>
          lt (x5 + (-8)) fun x5_6 =>
          k57 x4_5 x5_6 σ4
def X10_error_57 (a1 : Int32) (a2 : Int32) (a3 : Int32) : Nat → Int32 → Int32 → Mem → Option (Int32 × Mem)
  | 0, _, _, _ => none
  | n + 1, x4, x5, σ => if x5 < 0 then
        bd (X10_act 3 a1 σ) fun r8 =>
        lt (r8) fun σ9 =>
        bd (X10_suffixInHand σ9) fun r10 =>
        bd (X10_change a1 ((a2 * 531441) + r10) σ9) fun r11 =>
        lt (r11) fun σ12 =>
        some (1, σ12)
      else
        lt ((a3 >>> (x5 &&& 31)) &&& 255) fun x6_13 =>
        if x6_13 = 0 then
          if x4 = 0 then
            lt (x5 + (-8)) fun x5_16 =>
            X10_error_57 a1 a2 a3 n x4 x5_16 σ
          else
            X10_error_85 a1 a2 a3 (X10_error_57 a1 a2 a3 n) x4 x5 x6_13 σ
        else
          X10_error_85 a1 a2 a3 (X10_error_57 a1 a2 a3 n) x4 x5 x6_13 σ
def X10_error_33 (a1 : Int32) (a2 : Int32) (a3 : Int32) : Nat → Int32 → Int32 → Mem → Option (Int32 × Mem)
  | 0, _, _, _ => none
  | n + 1, x4, x5, σ => if 4 ≤ x5 then
        X10_error_57 a1 a2 a3 FU x4 24 σ
      else
        gd x5 4 <|
        lt (up σ 17 (Int32.toNatClampNeg x5) 0) fun σ19 =>
        lt (x5 + 1) fun x5_20 =>
        X10_error_33 a1 a2 a3 n x4 x5_20 σ19
def X10_error (a1 : Int32) (a2 : Int32) (a3 : Int32) (σ : Mem) : Option (Int32 × Mem) :=
  lt (up σ 0 0 0) fun σ21 =>
  bd (X10_isItem a1 σ21) fun r22 =>
  if r22 = 0 then
    some (0, σ21)
  else
    if a2 < 1 then
      some (0, σ21)
    else
      if a2 ≤ 999 then
        X10_error_33 a1 a2 a3 FU 0 0 σ21
      else
        some (0, σ21)
def X10_undo_99 : Nat → Int32 → Mem → Option (Int32 × Mem)
  | 0, _, _ => none
  | n + 1, x3, σ => if (σ 0 21) ≤ x3 then
        some (1, σ)
      else
        gd (x3 + 1) 80 <|
        gd x3 80 <|
        lt (up σ 9 (Int32.toNatClampNeg x3) (σ 9 (Int32.toNatClampNeg (x3 + 1)))) fun σ4 =>
        lt (x3 + 1) fun x3_5 =>
        X10_undo_99 n x3_5 σ4
def X10_undo_67 (x1 : Int32) (σ : Mem) : Option (Int32 × Mem) := gd (σ 0 29) 100 <|
    if (σ 14 (Int32.toNatClampNeg (σ 0 29))) = 0 then
      bd (X10_placeOf x1 σ) fun r8 =>
      lt (up σ 0 21 ((σ 0 21) - 1)) fun σ9 =>
      X10_undo_99 FU r8 σ9
    else
      some (1, σ)
def X10_undo (σ : Mem) : Option (Int32 × Mem) :=
  lt (up σ 0 0 0) fun σ10 =>
  if (σ10 0 29) = 0 then
    some (0, σ10)
  else
    lt (up σ10 0 29 ((σ10 0 29) - 1)) fun σ12 =>
    gd (σ12 0 29) 100 <|
    lt (up σ12 0 25 (σ12 16 (Int32.toNatClampNeg (σ12 0 29)))) fun σ14 =>
    gd (σ14 0 29) 100 <|
    lt (σ14 15 (Int32.toNatClampNeg (σ14 0 29))) fun x1_16 =>
    gd (σ14 0 29) 100 <|
    if (σ14 14 (Int32.toNatClampNeg (σ14 0 29))) = 1 then
      gd x1_16 80 <|
      lt (up σ14 10 (Int32.toNatClampNeg x1_16) (vp_nar .boolean 0)) fun σ20 =>
      X10_undo_67 x1_16 σ20
    else
      X10_undo_67 x1_16 σ14
def X10_wait (a1 : Int32) (σ : Mem) : Option (Int32 × Mem) :=
  lt (up σ 0 0 0) fun σ1 =>
  if a1 < 0 then
    some (0, σ1)
  else
    if 1000 < a1 then
      some (0, σ1)
    else
      if ((σ1 0 11) + a1) ≤ 9999 then
        lt (up σ1 0 11 ((σ1 0 11) + a1)) fun σ5 =>
        some (1, σ5)
      else
        some (0, σ1)
def X10_about_100 (a1 : Int32) (a2 : Int32) : Nat → Int32 → Int32 → Mem → Option (Int32 × Mem)
  | 0, _, _, _ => none
  | n + 1, x3, x4, σ => bd (X10_placeOf a1 σ) fun r1 =>
      if r1 ≤ x4 then
        some (x3, σ)
      else
        gd x4 80 <|
        bd (X10_isInRow (σ 9 (Int32.toNatClampNeg x4)) a1 σ) fun r4 =>
        if r4 = 0 then
          lt (x3 + 0) fun x3_6 =>
          lt (x4 + 1) fun x4_7 =>
          X10_about_100 a1 a2 n x3_6 x4_7 σ
        else
          lt (x3 + 1) fun x3_8 =>
          lt (x4 + 1) fun x4_9 =>
          X10_about_100 a1 a2 n x3_8 x4_9 σ
def X10_about_23 (a1 : Int32) (a2 : Int32) (y1 : Int32) (σ : Mem) : Option (Int32 × Mem) := bd (X10_throwsIf y1 σ) fun r10 =>
    lt (r10.2) fun σ11 =>
    if r10.1 = 0 then
      if a2 = 0 then
        gd a1 80 <|
        some (σ11 6 (Int32.toNatClampNeg a1), σ11)
      else if a2 = 1 then
        gd a1 80 <|
        some (σ11 7 (Int32.toNatClampNeg a1), σ11)
      else if a2 = 2 then
        gd a1 80 <|
        if (σ11 10 (Int32.toNatClampNeg a1)) = 0 then
          some (0, σ11)
        else
          some (1, σ11)
      else if a2 = 3 then
        X10_about_100 a1 a2 FU 0 0 σ11
      else if a2 = 4 then
        bd (X10_placeOf a1 σ11) fun r22 =>
        some (r22, σ11)
      else 
        gd a1 80 <|
      some (σ11 8 (Int32.toNatClampNeg a1), σ11)
    else
      some (0, σ11)
def X10_about_18 (a1 : Int32) (a2 : Int32) (σ : Mem) : Option (Int32 × Mem) := X10_about_23 a1 a2 1 σ
def X10_about (a1 : Int32) (a2 : Int32) (σ : Mem) : Option (Int32 × Mem) :=
  bd (X10_isItem a1 σ) fun r24 =>
  if r24 = 0 then
    X10_about_18 a1 a2 σ
  else
    if a2 < 0 then
      X10_about_18 a1 a2 σ
    else
      if a2 ≤ 5 then
        X10_about_23 a1 a2 0 σ
      else
        X10_about_18 a1 a2 σ
def X10_put (a1 : Int32) (σ : Mem) : Option (Mem) :=
  gd (σ 0 32) 100 <|
  lt (up σ 18 (Int32.toNatClampNeg (σ 0 32)) (vp_nar .byte (Int8.toInt32 (Int32.toInt8 a1)))) fun σ2 =>
  lt (up σ2 0 32 ((σ2 0 32) + 1)) fun σ3 =>
  some (σ3)
def X10_romanLetter (a0 : Int32) : Option (Int32) :=
  if a0 = 1 then
    some (73)
  else
    if a0 = 2 then
      some (86)
    else
      if a0 = 3 then
        some (88)
      else
        if a0 = 4 then
          some (76)
        else
          if a0 = 5 then
            some (67)
          else
            if a0 = 6 then
              some (68)
            else
              some (77)
def X10_roman_64 (a1 : Int32) (a2 : Int32) (k12 : (Int32 → Int32 → Mem → Option (Mem))) (k5 : (Int32 → Int32 → Mem → Option (Mem))) (x3 : Int32) (x4 : Int32) (σ : Mem) : Option (Mem) := gd x4 12 <|
            bd (X10_romanLetter ((σ 20 (Int32.toNatClampNeg x4)) - (σ 20 (Int32.toNatClampNeg x4)) / 10 * 10)) fun r2 =>
            bd (X10_put (r2 + a2) σ) fun r3 =>
            lt (r3) fun σ4 =>
            k12 x3 x4 σ4
def X10_roman_12 (a1 : Int32) (a2 : Int32) (k5 : (Int32 → Int32 → Mem → Option (Mem))) : Nat → Int32 → Int32 → Mem → Option (Mem)
  | 0, _, _, _ => none
  | n + 1, x3, x4, σ => gd x4 12 <|
          if x3 < (σ 19 (Int32.toNatClampNeg x4)) then
            lt (x4 + 1) fun x4_7 =>
            k5 x3 x4_7 σ
          else
            gd x4 12 <|
            lt (x3 - (σ 19 (Int32.toNatClampNeg x4))) fun x3_9 =>
            gd x4 12 <|
            if (σ 20 (Int32.toNatClampNeg x4)) ≤ 9 then
              X10_roman_64 a1 a2 (X10_roman_12 a1 a2 k5 n) (k5) x3_9 x4 σ
            else
              gd x4 12 <|
              bd (X10_romanLetter ((σ 20 (Int32.toNatClampNeg x4)) / 10)) fun r13 =>
              bd (X10_put (r13 + a2) σ) fun r14 =>
              lt (r14) fun σ15 =>
              X10_roman_64 a1 a2 (X10_roman_12 a1 a2 k5 n) (k5) x3_9 x4 σ15
def X10_roman_5 (a1 : Int32) (a2 : Int32) : Nat → Int32 → Int32 → Mem → Option (Mem)
  | 0, _, _, _ => none
  | n + 1, x3, x4, σ => if 12 ≤ x4 then
        some (σ)
      else
        X10_roman_12 a1 a2 (X10_roman_5 a1 a2 n) FU x3 x4 σ
def X10_roman (a1 : Int32) (a2 : Int32) (σ : Mem) : Option (Mem) :=
  X10_roman_5 a1 a2 FU a1 0 σ
def X10_decimal_37 (a1 : Int32) (σ : Mem) : Option (Mem) := bd (X10_put (48 + (a1 - a1 / 10 * 10)) σ) fun r1 =>
    lt (r1) fun σ2 =>
    some (σ2)
def X10_decimal_17 (a1 : Int32) (σ : Mem) : Option (Mem) := if a1 ≤ 9 then
      X10_decimal_37 a1 σ
    else
      bd (X10_put (48 + ((a1 / 10) - (a1 / 10) / 10 * 10)) σ) fun r4 =>
      lt (r4) fun σ5 =>
      X10_decimal_37 a1 σ5
def X10_decimal (a1 : Int32) (σ : Mem) : Option (Mem) :=
  if a1 ≤ 99 then
    X10_decimal_17 a1 σ
  else
    bd (X10_put (48 + (a1 / 100)) σ) fun r7 =>
    lt (r7) fun σ8 =>
    X10_decimal_17 a1 σ8
def X10_letters_50 (a1 : Int32) (σ : Mem) : Option (Mem) := bd (X10_put (97 + ((a1 - 1) - (a1 - 1) / 26 * 26)) σ) fun r1 =>
    lt (r1) fun σ2 =>
    some (σ2)
def X10_letters_33 (a1 : Int32) (x3 : Int32) (σ : Mem) : Option (Mem) := if a1 ≤ 26 then
      X10_letters_50 a1 σ
    else
      bd (X10_put (97 + (x3 - x3 / 26 * 26)) σ) fun r4 =>
      lt (r4) fun σ5 =>
      X10_letters_50 a1 σ5
def X10_letters (a1 : Int32) (σ : Mem) : Option (Mem) :=
  lt ((a1 - 703) / 676) fun x2_6 =>
  lt ((a1 - 27) / 26) fun x3_7 =>
  if a1 ≤ 702 then
    X10_letters_33 a1 x3_7 σ
  else
    bd (X10_put (97 + x2_6) σ) fun r9 =>
    lt (r9) fun σ10 =>
    X10_letters_33 a1 x3_7 σ10
def X10_write_70 (a1 : Int32) (a2 : Int32) : Nat → Int32 → Int32 → Mem → Option (Mem)
  | 0, _, _, _ => none
  | n + 1, x4, x5, σ => bd (X10_lettersOf x4) fun r1 =>
      if r1 ≤ x5 then
        some (σ)
      else
        bd (X10_letterAt x4 x5) fun r3 =>
        bd (X10_put (64 + r3) σ) fun r4 =>
        lt (r4) fun σ5 =>
        lt (x5 + 1) fun x5_6 =>
        X10_write_70 a1 a2 n x4 x5_6 σ5
def X10_write_46 (a1 : Int32) (a2 : Int32) (σ : Mem) : Option (Mem) := lt (a1 - a1 / 531441 * 531441) fun x4_7 =>
    if x4_7 ≤ 0 then
      X10_write_70 a1 a2 FU x4_7 0 σ
    else
      if a2 = 0 then
        X10_write_70 a1 a2 FU x4_7 0 σ
      else
        bd (X10_put 45 σ) fun r10 =>
        lt (r10) fun σ11 =>
        X10_write_70 a1 a2 FU x4_7 0 σ11
def X10_write_43 (a1 : Int32) (a2 : Int32) (y1 : Int32) (y2 : Int32) (σ : Mem) : Option (Mem) := bd (X10_roman y1 y2 σ) fun r12 =>
    lt (r12) fun σ13 =>
    X10_write_46 a1 a2 σ13
def X10_write (a1 : Int32) (a2 : Int32) (σ : Mem) : Option (Mem) :=
  lt (a1 / 531441) fun x3_14 =>
  if a2 = 0 then
    bd (X10_decimal x3_14 σ) fun r20 =>
    lt (r20) fun σ21 =>
    X10_write_46 a1 a2 σ21
  else
    if a2 = 2 then
      bd (X10_letters x3_14 σ) fun r18 =>
      lt (r18) fun σ19 =>
      X10_write_46 a1 a2 σ19
    else
      if a2 = 3 then
        X10_write_43 a1 a2 x3_14 32 σ
      else
        X10_write_43 a1 a2 x3_14 0 σ
def X10_label_27 (a1 : Int32) (a2 : Int32) (y0 : Int32) (σ : Mem) : Option (Int32 × Mem) := if y0 = 0 then
      some ((-1), σ)
    else
      lt (up σ 0 32 0) fun σ2 =>
      gd a1 80 <|
      gd (σ2 6 (Int32.toNatClampNeg a1)) 4 <|
      bd (X10_write y0 (σ2 2 (Int32.toNatClampNeg (σ2 6 (Int32.toNatClampNeg a1)))) σ2) fun r5 =>
      lt (r5) fun σ6 =>
      some (σ6 0 32, σ6)
def X10_label_26 (a1 : Int32) (a2 : Int32) (σ : Mem) : Option (Int32 × Mem) := X10_label_27 a1 a2 0 σ
def X10_label (a1 : Int32) (a2 : Int32) (σ : Mem) : Option (Int32 × Mem) :=
  lt (up σ 0 0 0) fun σ7 =>
  bd (X10_isItem a1 σ7) fun r8 =>
  if r8 = 0 then
    X10_label_26 a1 a2 σ7
  else
    if a2 < 0 then
      X10_label_26 a1 a2 σ7
    else
      bd (X10_labelOf a1 a2 σ7) fun r11 =>
      X10_label_27 a1 a2 r11 σ7
def X10_over_2 (a1 : Int32) (a2 : Int32) (σ : Mem) : Nat → Int32 → Option (Int32)
  | 0, _ => none
  | n + 1, x3 => gd x3 80 <|
      if (σ 6 (Int32.toNatClampNeg x3)) ≤ a2 then
        some (x3)
      else
        gd x3 80 <|
        lt (σ 7 (Int32.toNatClampNeg x3)) fun x3_4 =>
        X10_over_2 a1 a2 σ n x3_4
def X10_over (a1 : Int32) (a2 : Int32) (σ : Mem) : Option (Int32) :=
  X10_over_2 a1 a2 σ FU a1
def X10_cited_80 (a1 : Int32) (a2 : Int32) (k60 : (Int32 → Mem → Option (Int32 × Mem))) (x3 : Int32) (σ : Mem) : Option (Int32 × Mem) := bd (X10_over a1 x3 σ) fun r1 =>
        bd (X10_labelOf r1 a2 σ) fun r2 =>
        gd x3 4 <|
        bd (X10_write r2 (σ 2 (Int32.toNatClampNeg x3)) σ) fun r4 =>
        lt (r4) fun σ5 =>
        lt (x3 + 1) fun x3_6 =>
        k60 x3_6 σ5
def X10_cited_60 (a1 : Int32) (a2 : Int32) : Nat → Int32 → Mem → Option (Int32 × Mem)
  | 0, _, _ => none
  | n + 1, x3, σ => gd a1 80 <|
      if (σ 6 (Int32.toNatClampNeg a1)) < x3 then
        some (σ 0 32, σ)
      else
        if x3 ≤ 0 then
          X10_cited_80 a1 a2 (X10_cited_60 a1 a2 n) x3 σ
        else
          bd (X10_put 46 σ) fun r10 =>
          lt (r10) fun σ11 =>
          X10_cited_80 a1 a2 (X10_cited_60 a1 a2 n) x3 σ11
def X10_cited_21 (a1 : Int32) (a2 : Int32) : Nat → Int32 → Mem → Option (Int32 × Mem)
  | 0, _, _ => none
  | n + 1, x3, σ => gd a1 80 <|
      if (σ 6 (Int32.toNatClampNeg a1)) < x3 then
        lt (up σ 0 32 0) fun σ14 =>
        X10_cited_60 a1 a2 FU 0 σ14
      else
        bd (X10_over a1 x3 σ) fun r15 =>
        bd (X10_labelOf r15 a2 σ) fun r16 =>
        if r16 = 0 then
          some ((-1), σ)
        else
          lt (x3 + 1) fun x3_18 =>
          X10_cited_21 a1 a2 n x3_18 σ
def X10_cited (a1 : Int32) (a2 : Int32) (σ : Mem) : Option (Int32 × Mem) :=
  lt (up σ 0 0 0) fun σ19 =>
  bd (X10_isItem a1 σ19) fun r20 =>
  if r20 = 0 then
    some ((-1), σ19)
  else
    if 0 ≤ a2 then
      X10_cited_21 a1 a2 FU 0 σ19
    else
      some ((-1), σ19)
def X10_octet_18 (a1 : Int32) (y1 : Int32) (σ : Mem) : Option (Int32 × Mem) := bd (X10_throwsIf y1 σ) fun r1 =>
    lt (r1.2) fun σ2 =>
    if r1.1 = 0 then
      gd a1 100 <|
      some (σ2 18 (Int32.toNatClampNeg a1), σ2)
    else
      some (0, σ2)
def X10_octet_13 (a1 : Int32) (σ : Mem) : Option (Int32 × Mem) := X10_octet_18 a1 1 σ
def X10_octet (a1 : Int32) (σ : Mem) : Option (Int32 × Mem) :=
  if a1 < 0 then
    X10_octet_13 a1 σ
  else
    if a1 < (σ 0 32) then
      X10_octet_18 a1 0 σ
    else
      X10_octet_13 a1 σ
def X10_breaks (a1 : Int32) (a2 : Int32) (σ : Mem) : Option (Int32 × Mem) :=
  lt (up σ 0 36 a1) fun σ1 =>
  lt (up σ1 0 37 a2) fun σ2 =>
  some (0, σ2)
def X10_fitsForm_49 (a0 : Int32) (a1 : Int32) : Nat → Int32 → Int32 → Option (Int32)
  | 0, _, _ => none
  | n + 1, x2, x3 => if 8 ≤ x3 then
        some (0)
      else
        bd (X10_romanLetter x3) fun r2 =>
        if r2 = x2 then
          some (1)
        else
          lt (x3 + 1) fun x3_4 =>
          X10_fitsForm_49 a0 a1 n x2 x3_4
def X10_fitsForm_32 (a0 : Int32) (a1 : Int32) (y0 : Int32) : Option (Int32) := if a1 = 3 then
      bd (X10_isSmall a0) fun r6 =>
      if r6 = 0 then
        some (0)
      else
        X10_fitsForm_49 a0 a1 FU y0 1
    else
      X10_fitsForm_49 a0 a1 FU y0 1
def X10_fitsForm (a0 : Int32) (a1 : Int32) : Option (Int32) :=
  if a1 = 0 then
    bd (X10_isDigit a0) fun r13 =>
    gp (r13 = 0 ∨ r13 = 1) <|
    some (r13)
  else
    if a1 = 2 then
      bd (X10_isSmall a0) fun r11 =>
      gp (r11 = 0 ∨ r11 = 1) <|
      some (r11)
    else
      if a1 = 3 then
        X10_fitsForm_32 a0 a1 (a0 - 32)
      else
        X10_fitsForm_32 a0 a1 a0
def X10_romanWorth (a0 : Int32) : Option (Int32) :=
  if a0 = 73 then
    some (1)
  else
    if a0 = 86 then
      some (5)
    else
      if a0 = 88 then
        some (10)
      else
        if a0 = 76 then
          some (50)
        else
          if a0 = 67 then
            some (100)
          else
            if a0 = 68 then
              some (500)
            else
              some (1000)
def X10_isWritten_120 (a1 : Int32) (a2 : Int32) : Nat → Int32 → Int32 → Int32 → Mem → Option (Int32 × Mem)
  | 0, _, _, _, _ => none
  | n + 1, x3, x4, x5, σ => if x3 ≤ x5 then
        lt (up σ 0 32 x3) fun σ2 =>
        gp (x4 = 0 ∨ x4 = 1) <|
        some (x4, σ2)
      else
        gd x5 100 <|
        gd x5 100 <|
        lt (up σ 18 (Int32.toNatClampNeg x5) (vp_nar .byte (σ 21 (Int32.toNatClampNeg x5)))) fun σ6 =>
        lt (x5 + 1) fun x5_7 =>
        X10_isWritten_120 a1 a2 n x3 x4 x5_7 σ6
def X10_isWritten_71 (a1 : Int32) (a2 : Int32) : Nat → Int32 → Int32 → Int32 → Mem → Option (Int32 × Mem)
  | 0, _, _, _, _ => none
  | n + 1, x3, x4, x5, σ => if (σ 0 32) ≤ x5 then
        X10_isWritten_120 a1 a2 FU x3 x4 0 σ
      else
        if x4 = 0 then
          X10_isWritten_120 a1 a2 FU x3 x4 0 σ
        else
          gd x5 100 <|
          gd (a1 + x5) 200 <|
          if (σ 18 (Int32.toNatClampNeg x5)) = (σ 1 (Int32.toNatClampNeg (a1 + x5))) then
            lt (x5 + 1) fun x5_14 =>
            X10_isWritten_71 a1 a2 n x3 1 x5_14 σ
          else
            lt (x5 + 1) fun x5_13 =>
            X10_isWritten_71 a1 a2 n x3 0 x5_13 σ
def X10_isWritten_8 (a1 : Int32) (a2 : Int32) : Nat → Int32 → Int32 → Mem → Option (Int32 × Mem)
  | 0, _, _, _ => none
  | n + 1, x3, x4, σ => if x3 ≤ x4 then
        lt (up σ 0 32 0) fun σ16 =>
        bd (X10_write (σ16 0 35) a2 σ16) fun r17 =>
        lt (r17) fun σ18 =>
        if (σ18 0 32) = ((σ18 0 4) - a1) then
          X10_isWritten_71 a1 a2 FU x3 1 0 σ18
        else
          X10_isWritten_71 a1 a2 FU x3 0 0 σ18
      else
        gd x4 100 <|
        gd x4 100 <|
        lt (up σ 21 (Int32.toNatClampNeg x4) (vp_nar .byte (σ 18 (Int32.toNatClampNeg x4)))) fun σ22 =>
        lt (x4 + 1) fun x4_23 =>
        X10_isWritten_8 a1 a2 n x3 x4_23 σ22
def X10_isWritten (a1 : Int32) (a2 : Int32) (σ : Mem) : Option (Int32 × Mem) :=
  lt (σ 0 32) fun x3_24 =>
  X10_isWritten_8 a1 a2 FU x3_24 0 σ
def X10_readLabel_318 (a1 : Int32) (x2 : Int32) (σ : Mem) : Option (Int32 × Mem) := bd (X10_breaks 2 x2 σ) fun r1 =>
    lt (r1.2) fun σ2 =>
    gp (r1.1 = 0 ∨ r1.1 = 1) <|
    some (r1.1, σ2)
def X10_readLabel_300 (a1 : Int32) (x2 : Int32) (x3 : Int32) (x5 : Int32) (σ : Mem) : Option (Int32 × Mem) := if x3 < 1 then
      X10_readLabel_318 a1 x2 σ
    else
      if 999 < x3 then
        X10_readLabel_318 a1 x2 σ
      else
        if x5 ≤ 4 then
          bd (X10_suffixInHand σ) fun r7 =>
          lt (up σ 0 35 ((x3 * 531441) + r7)) fun σ8 =>
          bd (X10_isWritten x2 a1 σ8) fun r9 =>
          lt (r9.2) fun σ10 =>
          if r9.1 = 0 then
            bd (X10_breaks 2 x2 σ10) fun r12 =>
            lt (r12.2) fun σ13 =>
            if r12.1 = 0 then
              some (0, σ13)
            else
              some (1, σ13)
          else
            some (1, σ10)
        else
          X10_readLabel_318 a1 x2 σ
def X10_readLabel_284 (a1 : Int32) (k254 : (Int32 → Int32 → Int32 → Mem → Option (Int32 × Mem))) (x2 : Int32) (x3 : Int32) (x5 : Int32) (σ : Mem) : Option (Int32 × Mem) := lt (x5 + 1) fun x5_15 =>
        lt (up σ 0 4 ((σ 0 4) + 1)) fun σ16 =>
        k254 x2 x3 x5_15 σ16
def X10_readLabel_254 (a1 : Int32) : Nat → Int32 → Int32 → Int32 → Mem → Option (Int32 × Mem)
  | 0, _, _, _, _ => none
  | n + 1, x2, x3, x5, σ => bd (X10_peek σ) fun r17 =>
      bd (X10_isGreat r17) fun r18 =>
      if r18 = 0 then
        X10_readLabel_300 a1 x2 x3 x5 σ
      else
        if 4 ≤ x5 then
          X10_readLabel_284 a1 (X10_readLabel_254 a1 n) x2 x3 x5 σ
        else
          bd (X10_peek σ) fun r21 =>
          gd x5 4 <|
          lt (up σ 17 (Int32.toNatClampNeg x5) (r21 - 64)) fun σ23 =>
          X10_readLabel_284 a1 (X10_readLabel_254 a1 n) x2 x3 x5 σ23
def X10_readLabel_226 (a1 : Int32) (x2 : Int32) (x3 : Int32) (x5 : Int32) (σ : Mem) : Option (Int32 × Mem) := if a1 = 0 then
      X10_readLabel_254 a1 FU x2 x3 x5 σ
    else
      if (σ 0 4) ≤ x2 then
        X10_readLabel_300 a1 x2 x3 x5 σ
      else
        gd ((σ 0 4) - 1) 200 <|
        if (σ 1 (Int32.toNatClampNeg ((σ 0 4) - 1))) = 45 then
          X10_readLabel_254 a1 FU x2 x3 x5 σ
        else
          X10_readLabel_300 a1 x2 x3 x5 σ
def X10_readLabel_160 (a1 : Int32) : Nat → Int32 → Int32 → Int32 → Mem → Option (Int32 × Mem)
  | 0, _, _, _, _ => none
  | n + 1, x2, x3, x5, σ => if 4 ≤ x5 then
        if a1 = 0 then
          X10_readLabel_226 a1 x2 x3 0 σ
        else
          bd (X10_peek σ) fun r30 =>
          if r30 = 45 then
            lt (up σ 0 4 ((σ 0 4) + 1)) fun σ32 =>
            bd (X10_peek σ32) fun r33 =>
            bd (X10_isGreat r33) fun r34 =>
            if r34 = 0 then
              bd (X10_breaks 1 (σ32 0 4) σ32) fun r36 =>
              lt (r36.2) fun σ37 =>
              gp (r36.1 = 0 ∨ r36.1 = 1) <|
              some (r36.1, σ37)
            else
              X10_readLabel_226 a1 x2 x3 0 σ32
          else
            X10_readLabel_226 a1 x2 x3 0 σ
      else
        gd x5 4 <|
        lt (up σ 17 (Int32.toNatClampNeg x5) 0) fun σ40 =>
        lt (x5 + 1) fun x5_41 =>
        X10_readLabel_160 a1 n x2 x3 x5_41 σ40
def X10_readLabel_143 (a1 : Int32) (k31 : (Int32 → Int32 → Int32 → Mem → Option (Int32 × Mem))) (x2 : Int32) (x4 : Int32) (y0 : Int32) (σ : Mem) : Option (Int32 × Mem) := lt (up σ 0 4 ((σ 0 4) + 1)) fun σ42 =>
        k31 x2 y0 x4 σ42
def X10_readLabel_131 (a1 : Int32) (k31 : (Int32 → Int32 → Int32 → Mem → Option (Int32 × Mem))) (x2 : Int32) (x3 : Int32) (x4 : Int32) (σ : Mem) : Option (Int32 × Mem) := if x3 ≤ 100000 then
          X10_readLabel_143 a1 (k31) x2 x4 x3 σ
        else
          X10_readLabel_143 a1 (k31) x2 x4 100000 σ
def X10_readLabel_125 (a1 : Int32) (k31 : (Int32 → Int32 → Int32 → Mem → Option (Int32 × Mem))) (x2 : Int32) (x6 : Int32) (y0 : Int32) (y1 : Int32) (σ : Mem) : Option (Int32 × Mem) := lt (y0 + y1) fun x3_44 =>
        X10_readLabel_131 a1 (k31) x2 x3_44 x6 σ
def X10_readLabel_100 (a1 : Int32) (k31 : (Int32 → Int32 → Int32 → Mem → Option (Int32 × Mem))) (x2 : Int32) (x3 : Int32) (x4 : Int32) (y0 : Int32) (σ : Mem) : Option (Int32 × Mem) := bd (X10_romanWorth y0) fun r45 =>
        if r45 ≤ x4 then
          X10_readLabel_125 a1 (k31) x2 r45 x3 r45 σ
        else
          X10_readLabel_125 a1 (k31) x2 r45 x3 (r45 - (2 * x4)) σ
def X10_readLabel_31 (a1 : Int32) : Nat → Int32 → Int32 → Int32 → Mem → Option (Int32 × Mem)
  | 0, _, _, _, _ => none
  | n + 1, x2, x3, x4, σ => bd (X10_peek σ) fun r47 =>
      bd (X10_fitsForm r47 a1) fun r48 =>
      if r48 = 0 then
        X10_readLabel_160 a1 FU x2 x3 0 σ
      else
        bd (X10_peek σ) fun r50 =>
        if a1 = 0 then
          lt (((10 * x3) + r50) - 48) fun x3_55 =>
          X10_readLabel_131 a1 (X10_readLabel_31 a1 n) x2 x3_55 x4 σ
        else
          if a1 = 2 then
            lt (((26 * x3) + r50) - 96) fun x3_54 =>
            X10_readLabel_131 a1 (X10_readLabel_31 a1 n) x2 x3_54 x4 σ
          else
            if a1 = 3 then
              X10_readLabel_100 a1 (X10_readLabel_31 a1 n) x2 x3 x4 (r50 - 32) σ
            else
              X10_readLabel_100 a1 (X10_readLabel_31 a1 n) x2 x3 x4 r50 σ
def X10_readLabel (a1 : Int32) (σ : Mem) : Option (Int32 × Mem) :=
  lt (σ 0 4) fun x2_56 =>
  bd (X10_peek σ) fun r57 =>
  bd (X10_fitsForm r57 a1) fun r58 =>
  if r58 = 0 then
    bd (X10_breaks 1 (σ 0 4) σ) fun r60 =>
    lt (r60.2) fun σ61 =>
    gp (r60.1 = 0 ∨ r60.1 = 1) <|
    some (r60.1, σ61)
  else
    X10_readLabel_31 a1 FU x2_56 0 0 σ
def X10_readCitation_60 (σ : Mem) : Option (Int32 × Mem) := bd (X10_breaks 1 (σ 0 4) σ) fun r1 =>
    lt (r1.2) fun σ2 =>
    some ((-1), σ2)
def X10_readCitation_2 : Nat → Int32 → Mem → Option (Int32 × Mem)
  | 0, _, _ => none
  | n + 1, x1, σ => gd x1 4 <|
      bd (X10_readLabel (σ 2 (Int32.toNatClampNeg x1)) σ) fun r4 =>
      lt (r4.2) fun σ5 =>
      if r4.1 = 0 then
        some ((-1), σ5)
      else
        gd x1 4 <|
        lt (up σ5 22 (Int32.toNatClampNeg x1) (σ5 0 35)) fun σ8 =>
        lt (x1 + 1) fun x1_9 =>
        if (σ8 0 4) = (σ8 0 3) then
          some (x1_9, σ8)
        else
          bd (X10_peek σ8) fun r11 =>
          if r11 = 46 then
            if x1_9 = (σ8 0 9) then
              X10_readCitation_60 σ8
            else
              lt (up σ8 0 4 ((σ8 0 4) + 1)) fun σ14 =>
              X10_readCitation_2 n x1_9 σ14
          else
            X10_readCitation_60 σ8
def X10_readCitation (σ : Mem) : Option (Int32 × Mem) :=
  X10_readCitation_2 FU 0 σ
def X10_cite_152 (a1 : Int32) (k64 : (Int32 → Int32 → Int32 → Mem → Option (Int32 × Mem))) (x2 : Int32) (x3 : Int32) (x4 : Int32) (x5 : Int32) (x6 : Int32) (σ : Mem) : Option (Int32 × Mem) := if x6 = 0 then
          lt (x4 + 1) fun x4_6 =>
          k64 x2 x3 x4_6 σ
        else
          lt (up σ 0 40 ((σ 0 40) + 1)) fun σ2 =>
          if 0 ≤ x3 then
            lt (x4 + 1) fun x4_4 =>
            k64 x2 x3 x4_4 σ2
          else
            lt (x4 + 1) fun x4_5 =>
            k64 x2 x5 x4_5 σ2
def X10_cite_105 (a1 : Int32) (k64 : (Int32 → Int32 → Int32 → Mem → Option (Int32 × Mem))) : Nat → Int32 → Int32 → Int32 → Int32 → Int32 → Int32 → Mem → Option (Int32 × Mem)
  | 0, _, _, _, _, _, _, _ => none
  | n + 1, x2, x3, x4, x5, x6, x7, σ => if x2 ≤ x7 then
            X10_cite_152 a1 (k64) x2 x3 x4 x5 x6 σ
          else
            if x6 = 0 then
              X10_cite_152 a1 (k64) x2 x3 x4 x5 x6 σ
            else
              bd (X10_over x5 x7 σ) fun r9 =>
              bd (X10_labelOf r9 a1 σ) fun r10 =>
              gd x7 4 <|
              if r10 = (σ 22 (Int32.toNatClampNeg x7)) then
                lt (x7 + 1) fun x7_14 =>
                X10_cite_105 a1 k64 n x2 x3 x4 x5 1 x7_14 σ
              else
                lt (x7 + 1) fun x7_13 =>
                X10_cite_105 a1 k64 n x2 x3 x4 x5 0 x7_13 σ
def X10_cite_64 (a1 : Int32) : Nat → Int32 → Int32 → Int32 → Mem → Option (Int32 × Mem)
  | 0, _, _, _, _ => none
  | n + 1, x2, x3, x4, σ => if (σ 0 21) ≤ x4 then
        some (x3, σ)
      else
        gd x4 80 <|
        lt (σ 9 (Int32.toNatClampNeg x4)) fun x5_17 =>
        gd x5_17 80 <|
        if (σ 6 (Int32.toNatClampNeg x5_17)) = (x2 - 1) then
          X10_cite_105 a1 (X10_cite_64 a1 n) FU x2 x3 x4 x5_17 1 0 σ
        else
          X10_cite_105 a1 (X10_cite_64 a1 n) FU x2 x3 x4 x5_17 0 0 σ
def X10_cite (a1 : Int32) (σ : Mem) : Option (Int32 × Mem) :=
  lt (up σ 0 0 0) fun σ20 =>
  bd (X10_taken σ20) fun r21 =>
  lt (r21) fun σ22 =>
  lt (up σ22 0 12 0) fun σ23 =>
  lt (up σ23 0 13 (-1)) fun σ24 =>
  if 0 ≤ a1 then
    bd (X10_readCitation σ24) fun r26 =>
    lt (r26.2) fun σ27 =>
    lt (r26.1) fun x2_28 =>
    if 0 ≤ x2_28 then
      lt (up σ27 0 40 0) fun σ30 =>
      X10_cite_64 a1 FU x2_28 (-1) 0 σ30
    else
      lt (up σ27 0 12 (σ27 0 36)) fun σ31 =>
      lt (up σ31 0 13 (σ31 0 37)) fun σ32 =>
      some ((-2), σ32)
  else
    some ((-3), σ24)
def X10_bearers (σ : Mem) : Option (Int32 × Mem) :=
  lt (up σ 0 0 0) fun σ1 =>
  some (σ1 0 40, σ1)
def X10_read_46 (a1 : Int32) : Nat → Int32 → Mem → Option (Int32 × Mem)
  | 0, _, _ => none
  | n + 1, x2, σ => bd (X10_lettersOf ((σ 0 35) - (σ 0 35) / 531441 * 531441)) fun r1 =>
      if r1 ≤ x2 then
        some ((σ 0 35) / 531441, σ)
      else
        bd (X10_letterAt ((σ 0 35) - (σ 0 35) / 531441 * 531441) x2) fun r3 =>
        lt (up σ 0 41 (((σ 0 41) <<< (8 &&& 31)) ||| (64 + r3))) fun σ4 =>
        lt (x2 + 1) fun x2_5 =>
        X10_read_46 a1 n x2_5 σ4
def X10_read (a1 : Int32) (σ : Mem) : Option (Int32 × Mem) :=
  lt (up σ 0 0 0) fun σ6 =>
  bd (X10_taken σ6) fun r7 =>
  lt (r7) fun σ8 =>
  if a1 < 0 then
    some ((-1), σ8)
  else
    if 3 < a1 then
      some ((-1), σ8)
    else
      bd (X10_readLabel a1 σ8) fun r11 =>
      lt (r11.2) fun σ12 =>
      if r11.1 = 0 then
        some ((-1), σ12)
      else
        if (σ12 0 4) = (σ12 0 3) then
          lt (up σ12 0 41 0) fun σ15 =>
          X10_read_46 a1 FU 0 σ15
        else
          some ((-1), σ12)
def X10_suffix (σ : Mem) : Option (Int32 × Mem) :=
  lt (up σ 0 0 0) fun σ1 =>
  some (σ1 0 41, σ1)
def X10_clash_104 (k7 : (Int32 → Mem → Option (Int32 × Mem))) (x1 : Int32) (x2 : Int32) (x3 : Int32) (σ : Mem) : Option (Int32 × Mem) := if x2 ≤ 0 then
          lt (x1 + 1) fun x1_2 =>
          k7 x1_2 σ
        else
          if x3 < x2 then
            lt (x1 + 1) fun x1_4 =>
            k7 x1_4 σ
          else
            gd x1 80 <|
            some (σ 9 (Int32.toNatClampNeg x1), σ)
def X10_clash_84 (k35 : (Int32 → Int32 → Int32 → Int32 → Mem → Option (Int32 × Mem))) (k7 : (Int32 → Mem → Option (Int32 × Mem))) (x1 : Int32) (x2 : Int32) (x3 : Int32) (x4 : Int32) (y0 : Int32) (σ : Mem) : Option (Int32 × Mem) := if y0 ≤ 0 then
              lt (x4 + 1) fun x4_7 =>
              k35 x1 x2 x3 x4_7 σ
            else
              lt (x4 + 1) fun x4_8 =>
              k35 x1 x2 y0 x4_8 σ
def X10_clash_35 (k7 : (Int32 → Mem → Option (Int32 × Mem))) : Nat → Int32 → Int32 → Int32 → Int32 → Mem → Option (Int32 × Mem)
  | 0, _, _, _, _, _ => none
  | n + 1, x1, x2, x3, x4, σ => if x1 ≤ x4 then
            X10_clash_104 (k7) x1 x2 x3 σ
          else
            if x2 ≤ 0 then
              X10_clash_104 (k7) x1 x2 x3 σ
            else
              gd x4 80 <|
              gd x1 80 <|
              bd (X10_isInRow (σ 9 (Int32.toNatClampNeg x4)) (σ 9 (Int32.toNatClampNeg x1)) σ) fun r13 =>
              if r13 = 0 then
                X10_clash_84 (X10_clash_35 k7 n) (k7) x1 x2 x3 x4 0 σ
              else
                gd x4 80 <|
                bd (X10_labelOf (σ 9 (Int32.toNatClampNeg x4)) (σ 0 11) σ) fun r16 =>
                X10_clash_84 (X10_clash_35 k7 n) (k7) x1 x2 x3 x4 r16 σ
def X10_clash_7 : Nat → Int32 → Mem → Option (Int32 × Mem)
  | 0, _, _ => none
  | n + 1, x1, σ => if (σ 0 21) ≤ x1 then
        some ((-1), σ)
      else
        gd x1 80 <|
        bd (X10_labelOf (σ 9 (Int32.toNatClampNeg x1)) (σ 0 11) σ) fun r19 =>
        X10_clash_35 (X10_clash_7 n) FU x1 r19 0 0 σ
def X10_clash (σ : Mem) : Option (Int32 × Mem) :=
  lt (up σ 0 0 0) fun σ20 =>
  X10_clash_7 FU 0 σ20
def X10_at (a1 : Int32) (σ : Mem) : Option (Int32 × Mem) :=
  lt (up σ 0 0 0) fun σ1 =>
  if a1 < 0 then
    some ((-1), σ1)
  else
    if a1 < (σ1 0 21) then
      gd a1 80 <|
      some (σ1 9 (Int32.toNatClampNeg a1), σ1)
    else
      some ((-1), σ1)
def X10_count_64 (a1 : Int32) : Nat → Int32 → Int32 → Mem → Option (Int32 × Mem)
  | 0, _, _, _ => none
  | n + 1, x2, x3, σ => if (σ 0 21) ≤ x3 then
        some (x2, σ)
      else
        gd x3 80 <|
        if (σ 10 (Int32.toNatClampNeg x3)) = 0 then
          lt (x2 + 0) fun x2_4 =>
          lt (x3 + 1) fun x3_5 =>
          X10_count_64 a1 n x2_4 x3_5 σ
        else
          lt (x2 + 1) fun x2_6 =>
          lt (x3 + 1) fun x3_7 =>
          X10_count_64 a1 n x2_6 x3_7 σ
def X10_count (a1 : Int32) (σ : Mem) : Option (Int32 × Mem) :=
  lt (up σ 0 0 0) fun σ8 =>
  if a1 = 0 then
    some (σ8 0 9, σ8)
  else if a1 = 1 then
    some (σ8 0 21, σ8)
  else if a1 = 2 then
    X10_count_64 a1 FU 0 0 σ8
  else if a1 = 3 then
    some (σ8 0 11, σ8)
  else if a1 = 4 then
    some (σ8 0 29, σ8)
  else if a1 = 5 then
    some (σ8 0 32, σ8)
  else if a1 = 6 then
    some (σ8 0 2, σ8)
  else 
    some ((-1), σ8)
