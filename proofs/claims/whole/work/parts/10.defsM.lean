-- X7_sign
def F_X7_sign (a1 : Int32) (g : GM) : Option (Int32) :=
  if (gi g 0 3) ≤ a1 then
    some 0
  else
    ckB (inB a1 1200) <|
    some ((gi g 2 a1.toNatClampNeg) &&& 255)

-- X7_isLetter
def F_X7_isLetter_16 : Option (Int32) :=
  some 0
def F_X7_isLetter (a0 : Int32) : Option (Int32) :=
  if a0 < 97 then
    F_X7_isLetter_16
  else
    if 122 < a0 then
      F_X7_isLetter_16
    else
      some 1

-- X7_isDigit
def F_X7_isDigit_16 : Option (Int32) :=
  some 0
def F_X7_isDigit (a0 : Int32) : Option (Int32) :=
  if a0 < 48 then
    F_X7_isDigit_16
  else
    if 57 < a0 then
      F_X7_isDigit_16
    else
      some 1

-- X7_fails
def F_X7_fails (a1 : Int32) (a2 : Int32) (g : GM) : Option (GM) :=
  if (gi g 0 4) ≤ 0 then
    lt (si g 0 4 a1) fun g_1 =>
    lt (si g_1 0 5 a2) fun g_2 =>
    some g_2
  else
    some g

-- X7_isGood
def F_X7_isGood (g : GM) : Option (Int32) :=
  if (gi g 0 4) = 0 then
    some 1
  else
    some 0

-- X7_isKept
def F_X7_isKept_88 : Option (Int32) :=
  some 1
def F_X7_isKept (a0 : Int64) : Option (Int32) :=
  if (lg_cmp a0 499850046565) = 0 then
    F_X7_isKept_88
  else
    if (lg_cmp a0 7499639) = 0 then
      F_X7_isKept_88
    else
      if (lg_cmp a0 29807) = 0 then
        F_X7_isKept_88
      else
        if (lg_cmp a0 2003399528) = 0 then
          F_X7_isKept_88
        else
          if (lg_cmp a0 7102839) = 0 then
            F_X7_isKept_88
          else
            if (lg_cmp a0 512852587109) = 0 then
              F_X7_isKept_88
            else
              if (lg_cmp a0 474147546227) = 0 then
                F_X7_isKept_88
              else
                if (lg_cmp a0 25209) = 0 then
                  F_X7_isKept_88
                else
                  if (lg_cmp a0 7237492) = 0 then
                    F_X7_isKept_88
                  else
                    if (lg_cmp a0 6385252) = 0 then
                      F_X7_isKept_88
                    else
                      if (lg_cmp a0 28530) = 0 then
                        F_X7_isKept_88
                      else
                        some 0

-- X7_isSign
def F_X7_isSign_73 (g : GM) : Option (Int32) :=
  some 1
def F_X7_isSign_77 (g : GM) : Option (Int32) :=
  some 0
def F_X7_isSign (a1 : Int32) (g : GM) : Option (Int32) :=
  if a1 = 58 then
    F_X7_isSign_73 g
  else
    if a1 = 44 then
      F_X7_isSign_73 g
    else
      if a1 = 59 then
        F_X7_isSign_73 g
      else
        if a1 = 35 then
          F_X7_isSign_73 g
        else
          if a1 = 45 then
            F_X7_isSign_73 g
          else
            if a1 = 46 then
              F_X7_isSign_73 g
            else
              if (gi g 0 11) = 0 then
                F_X7_isSign_77 g
              else
                if a1 = 60 then
                  F_X7_isSign_73 g
                else
                  if a1 = 62 then
                    F_X7_isSign_73 g
                  else
                    if a1 = 61 then
                      F_X7_isSign_73 g
                    else
                      if a1 = 40 then
                        F_X7_isSign_73 g
                      else
                        if a1 = 41 then
                          F_X7_isSign_73 g
                        else
                          F_X7_isSign_77 g

-- X7_next
def F_X7_next_377 (s0 : Int32) (g : GM) : Option (GM) :=
  lt (si g 0 8 s0) fun g_1 =>
  some g_1
def F_X7_next_357 (s0 : Int32) (g : GM) : Option (GM) :=
  lt (si g 0 8 s0) fun g_2 =>
  some g_2
def F_X7_next_352 (g : GM) : Option (GM) :=
  F_X7_next_357 1 g
def F_X7_next_310 (kb259 : GM → Option (GM)) (g : GM) : Option (GM) :=
  lt (si g 0 7 ((gi g 0 7) + 1)) fun g_3 =>
  kb259 g_3
def F_X7_next_259B (kb259 : GM → Option (GM)) : GM → Option (GM) := fun g =>
  (F_X7_sign (gi g 0 7) g).bind fun r_4 =>
  (F_X7_isDigit r_4).bind fun r_5 =>
  if r_5 = 0 then
    if 6 < ((gi g 0 7) - (gi g 0 6)) then
      F_X7_next_352 g
    else
      (F_X7_sign (gi g 0 7) g).bind fun r_6 =>
      (F_X7_isLetter r_6).bind fun r_7 =>
      if r_7 = 0 then
        F_X7_next_357 4 g
      else
        F_X7_next_352 g
  else
    if 6 ≤ ((gi g 0 7) - (gi g 0 6)) then
      F_X7_next_310 kb259 g
    else
      (F_X7_sign (gi g 0 7) g).bind fun r_8 =>
      lt (si g 0 9 (((10 * (gi g 0 9)) + r_8) - 48)) fun g_9 =>
      F_X7_next_310 kb259 g_9
def F_X7_next_233 (s0 : Int32) (g : GM) : Option (GM) :=
  lt (si g 0 8 s0) fun g_10 =>
  some g_10
def F_X7_next_199 (g : GM) : Option (GM) :=
  if ((gi g 0 7) - (gi g 0 6)) ≤ 8 then
    (F_X7_isKept (gl g 0 10)).bind fun r_11 =>
    if r_11 = 0 then
      F_X7_next_233 2 g
    else
      F_X7_next_233 3 g
  else
    F_X7_next_233 1 g
def F_X7_next_156B (kb156 : Int32 × GM → Option (GM)) : Int32 × GM → Option (GM) := fun (x2, g) =>
  if (gi g 0 7) ≤ x2 then
    F_X7_next_199 g
  else
    if ((gi g 0 6) + 8) ≤ x2 then
      F_X7_next_199 g
    else
      (F_X7_sign x2 g).bind fun r_12 =>
      lt (sl g 0 10 (((gl g 0 10) <<< ((8 : Int32).toInt64 &&& 63)) ||| r_12.toInt64)) fun g_13 =>
      lt (x2 + 1) fun x2_14 =>
      kb156 (x2_14, g_13)
def F_X7_next_119B (kb119 : GM → Option (GM)) : GM → Option (GM) := fun g =>
  (F_X7_sign (gi g 0 7) g).bind fun r_15 =>
  (F_X7_isLetter r_15).bind fun r_16 =>
  if r_16 = 0 then
    lt (sl g 0 10 0) fun g_17 =>
    lt (gi g_17 0 6) fun x2_18 =>
    fixN (F_X7_next_156B) FU (x2_18, g_17)
  else
    lt (si g 0 7 ((gi g 0 7) + 1)) fun g_19 =>
    kb119 g_19
def F_X7_next_58 (g : GM) : Option (GM) :=
  (F_X7_sign (gi g 0 6) g).bind fun r_20 =>
  lt r_20 fun x1_21 =>
  lt (si g 0 7 ((gi g 0 6) + 1)) fun g_22 =>
  if (gi g_22 0 6) < (gi g_22 0 3) then
    (F_X7_isLetter x1_21).bind fun r_23 =>
    if r_23 = 0 then
      (F_X7_isDigit x1_21).bind fun r_24 =>
      if r_24 = 0 then
        (F_X7_isSign x1_21 g_22).bind fun r_25 =>
        if r_25 = 0 then
          F_X7_next_377 1 g_22
        else
          F_X7_next_377 5 g_22
      else
        lt (si g_22 0 9 0) fun g_26 =>
        lt (si g_26 0 7 (gi g_26 0 6)) fun g_27 =>
        fixN (F_X7_next_259B) FU g_27
    else
      fixN (F_X7_next_119B) FU g_22
  else
    lt (si g_22 0 8 0) fun g_28 =>
    lt (si g_28 0 6 (gi g_28 0 3)) fun g_29 =>
    lt (si g_29 0 7 (gi g_29 0 3)) fun g_30 =>
    some g_30
def F_X7_next_45 (kb8 : GM → Option (GM)) (g : GM) : Option (GM) :=
  lt (si g 0 6 ((gi g 0 6) + 1)) fun g_31 =>
  kb8 g_31
def F_X7_next_8B (kb8 : GM → Option (GM)) : GM → Option (GM) := fun g =>
  if (gi g 0 3) ≤ (gi g 0 6) then
    F_X7_next_58 g
  else
    (F_X7_sign (gi g 0 6) g).bind fun r_32 =>
    if r_32 = 32 then
      F_X7_next_45 kb8 g
    else
      (F_X7_sign (gi g 0 6) g).bind fun r_33 =>
      if r_33 = 10 then
        F_X7_next_45 kb8 g
      else
        F_X7_next_58 g
def F_X7_next (g : GM) : Option (GM) :=
  lt (si g 0 6 (gi g 0 7)) fun g_34 =>
  fixN (F_X7_next_8B) FU g_34

-- X7_is
def F_X7_is_24 (g : GM) : Option (Int32) :=
  some 0
def F_X7_is (a1 : Int32) (g : GM) : Option (Int32) :=
  if (gi g 0 8) = 5 then
    (F_X7_sign (gi g 0 6) g).bind fun r_1 =>
    if r_1 = a1 then
      some 1
    else
      F_X7_is_24 g
  else
    F_X7_is_24 g

-- X7_isWord
def F_X7_isWord_21 (g : GM) : Option (Int32) :=
  some 0
def F_X7_isWord (a1 : Int64) (g : GM) : Option (Int32) :=
  if (gi g 0 8) = 3 then
    if (lg_cmp (gl g 0 10) a1) = 0 then
      some 1
    else
      F_X7_isWord_21 g
  else
    F_X7_isWord_21 g

-- X7_wrong
def F_X7_wrong_14 (s0 : Int32) (g : GM) : Option (GM) :=
  (F_X7_fails s0 (gi g 0 6) g).bind fun g_1 =>
  some g_1
def F_X7_wrong (g : GM) : Option (GM) :=
  if (gi g 0 8) = 1 then
    F_X7_wrong_14 1 g
  else
    F_X7_wrong_14 2 g

-- X7_must
def F_X7_must (a1 : Int32) (g : GM) : Option (GM) :=
  (F_X7_isGood g).bind fun r_1 =>
  if r_1 = 0 then
    some g
  else
    if a1 = 0 then
      (F_X7_wrong g).bind fun g_2 =>
      some g_2
    else
      (F_X7_next g).bind fun g_3 =>
      some g_3

-- X7_takeTape
def F_X7_takeTape_25B (kb25 : Int32 × GM → Option (GM)) : Int32 × GM → Option (GM) := fun (x2, g) =>
  if (gi g 0 3) ≤ x2 then
    lt (si g 0 2 0) fun g_1 =>
    lt (si g_1 0 7 0) fun g_2 =>
    some g_2
  else
    ckB (inB x2 1220) <|
    ckB (inB x2 1200) <|
    lt (si g 2 x2.toNatClampNeg (gi g 1 x2.toNatClampNeg).toInt8.toInt32) fun g_3 =>
    lt (x2 + 1) fun x2_4 =>
    kb25 (x2_4, g_3)
def F_X7_takeTape (a1 : Int32) (g : GM) : Option (GM) :=
  ckB (isZ a1) <|
  lt (si g 0 11 a1) fun g_5 =>
  lt (si g_5 0 4 0) fun g_6 =>
  lt (si g_6 0 5 ((-1))) fun g_7 =>
  lt (si g_7 0 3 (gi g_7 0 2)) fun g_8 =>
  fixN (F_X7_takeTape_25B) FU (0, g_8)

-- X7_tableOf
def F_X7_tableOf_5B (x1 : Int32) (x2 : Int64) (g : GM) (kb5 : Int32 → Option (Int32)) : Int32 → Option (Int32) := fun x4 =>
  ckB (inB x1 2) <|
  if ((5 * x1) + (gi g 12 x1.toNatClampNeg)) ≤ x4 then
    some ((-1))
  else
    ckB (inB x4 10) <|
    if (lg_cmp (gl g 3 x4.toNatClampNeg) x2) = 0 then
      some x4
    else
      lt (x4 + 1) fun x4_1 =>
      kb5 x4_1
def F_X7_tableOf (a1 : Int32) (a2 : Int64) (g : GM) : Option (Int32) :=
  lt (5 * a1) fun x4_2 =>
  fixN (F_X7_tableOf_5B a1 a2 g) FU x4_2

-- X7_columnOf
def F_X7_columnOf_5B (x1 : Int32) (x2 : Int64) (g : GM) (kb5 : Int32 → Option (Int32)) : Int32 → Option (Int32) := fun x4 =>
  ckB (inB x1 10) <|
  if ((5 * x1) + (gi g 5 x1.toNatClampNeg)) ≤ x4 then
    some ((-1))
  else
    ckB (inB x4 50) <|
    if (lg_cmp (gl g 4 x4.toNatClampNeg) x2) = 0 then
      some x4
    else
      lt (x4 + 1) fun x4_1 =>
      kb5 x4_1
def F_X7_columnOf (a1 : Int32) (a2 : Int64) (g : GM) : Option (Int32) :=
  lt (5 * a1) fun x4_2 =>
  fixN (F_X7_columnOf_5B a1 a2 g) FU x4_2

-- X7_readColumn
def F_X7_readColumn_171 (g : GM) : Option (GM) :=
  (F_X7_isGood g).bind fun r_1 =>
  if r_1 = 0 then
    some g
  else
    (F_X7_next g).bind fun g_2 =>
    some g_2
def F_X7_readColumn_127 (x2 : Int32) (g : GM) : Option (GM) :=
  (F_X7_isGood g).bind fun r_3 =>
  if r_3 = 0 then
    some g
  else
    (F_X7_tableOf (gi g 0 24) (gl g 0 10) g).bind fun r_4 =>
    ckB (inB x2 50) <|
    lt (si g 7 x2.toNatClampNeg r_4) fun g_5 =>
    ckB (inB x2 50) <|
    if 0 ≤ (gi g_5 7 x2.toNatClampNeg) then
      F_X7_readColumn_171 g_5
    else
      (F_X7_fails 4 (gi g_5 0 6) g_5).bind fun g_6 =>
      F_X7_readColumn_171 g_6
def F_X7_readColumn_50 (x1 : Int32) (g : GM) : Option (GM) :=
  (F_X7_isGood g).bind fun r_7 =>
  if r_7 = 0 then
    some g
  else
    ckB (inB x1 10) <|
    lt ((5 * x1) + (gi g 5 x1.toNatClampNeg)) fun x2_8 =>
    ckB (inB x2_8 50) <|
    lt (sl g 4 x2_8.toNatClampNeg (gl g 0 10)) fun g_9 =>
    ckB (inB x2_8 50) <|
    lt (si g_9 7 x2_8.toNatClampNeg ((-1))) fun g_10 =>
    ckB (inB x1 10) <|
    ckB (inB x1 10) <|
    lt (si g_10 5 x1.toNatClampNeg ((gi g_10 5 x1.toNatClampNeg) + 1)) fun g_11 =>
    (F_X7_next g_11).bind fun g_12 =>
    (F_X7_isWord 29807 g_12).bind fun r_13 =>
    if r_13 = 0 then
      some g_12
    else
      (F_X7_next g_12).bind fun g_14 =>
      if (gi g_14 0 8) = 2 then
        F_X7_readColumn_127 x2_8 g_14
      else
        (F_X7_wrong g_14).bind fun g_15 =>
        F_X7_readColumn_127 x2_8 g_15
def F_X7_readColumn_22 (x1 : Int32) (g : GM) : Option (GM) :=
  (F_X7_isGood g).bind fun r_16 =>
  if r_16 = 0 then
    F_X7_readColumn_50 x1 g
  else
    (F_X7_columnOf x1 (gl g 0 10) g).bind fun r_17 =>
    if r_17 < 0 then
      F_X7_readColumn_50 x1 g
    else
      (F_X7_fails 3 (gi g 0 6) g).bind fun g_18 =>
      F_X7_readColumn_50 x1 g_18
def F_X7_readColumn_18 (x1 : Int32) (g : GM) : Option (GM) :=
  (F_X7_wrong g).bind fun g_19 =>
  F_X7_readColumn_22 x1 g_19
def F_X7_readColumn (a1 : Int32) (g : GM) : Option (GM) :=
  if (gi g 0 8) = 2 then
    ckB (inB a1 10) <|
    if (gi g 5 a1.toNatClampNeg) = 5 then
      F_X7_readColumn_18 a1 g
    else
      F_X7_readColumn_22 a1 g
  else
    F_X7_readColumn_18 a1 g

-- X7_readTable
def F_X7_readTable_205 (g : GM) : Option (GM) :=
  (F_X7_is 59 g).bind fun r_1 =>
  (F_X7_must r_1 g).bind fun g_2 =>
  some g_2
def F_X7_readTable_193 (kb156 : Int32 × GM → Option (GM)) (x1 : Int32) (s0 : Int32) (g : GM) : Option (GM) :=
  if s0 = 0 then
    kb156 (s0, g)
  else
    (F_X7_next g).bind fun g_3 =>
    kb156 (s0, g_3)
def F_X7_readTable_192 (kb156 : Int32 × GM → Option (GM)) (x1 : Int32) (g : GM) : Option (GM) :=
  F_X7_readTable_193 kb156 x1 0 g
def F_X7_readTable_156B (x1 : Int32) (kb156 : Int32 × GM → Option (GM)) : Int32 × GM → Option (GM) := fun (x2, g) =>
  if x2 = 0 then
    F_X7_readTable_205 g
  else
    (F_X7_isGood g).bind fun r_4 =>
    if r_4 = 0 then
      F_X7_readTable_205 g
    else
      (F_X7_readColumn x1 g).bind fun g_5 =>
      (F_X7_isGood g_5).bind fun r_6 =>
      if r_6 = 0 then
        F_X7_readTable_192 kb156 x1 g_5
      else
        (F_X7_is 44 g_5).bind fun r_7 =>
        if r_7 = 0 then
          F_X7_readTable_192 kb156 x1 g_5
        else
          F_X7_readTable_193 kb156 x1 1 g_5
def F_X7_readTable_78 (g : GM) : Option (GM) :=
  (F_X7_isGood g).bind fun r_8 =>
  if r_8 = 0 then
    some g
  else
    ckB (inB (gi g 0 24) 2) <|
    lt ((5 * (gi g 0 24)) + (gi g 12 (gi g 0 24).toNatClampNeg)) fun x1_9 =>
    ckB (inB x1_9 10) <|
    lt (sl g 3 x1_9.toNatClampNeg (gl g 0 10)) fun g_10 =>
    ckB (inB x1_9 10) <|
    lt (si g_10 5 x1_9.toNatClampNeg 0) fun g_11 =>
    ckB (inB x1_9 10) <|
    lt (si g_11 6 x1_9.toNatClampNeg 0) fun g_12 =>
    ckB (inB (gi g_12 0 24) 2) <|
    ckB (inB (gi g_12 0 24) 2) <|
    lt (si g_12 12 ((gi g_12 0 24).toNatClampNeg) ((gi g_12 12 (gi g_12 0 24).toNatClampNeg) + 1)) fun g_13 =>
    (F_X7_next g_13).bind fun g_14 =>
    (F_X7_is 58 g_14).bind fun r_15 =>
    (F_X7_must r_15 g_14).bind fun g_16 =>
    fixN (F_X7_readTable_156B x1_9) FU (1, g_16)
def F_X7_readTable_47 (g : GM) : Option (GM) :=
  (F_X7_isGood g).bind fun r_17 =>
  if r_17 = 0 then
    F_X7_readTable_78 g
  else
    (F_X7_tableOf (gi g 0 24) (gl g 0 10) g).bind fun r_18 =>
    if r_18 < 0 then
      F_X7_readTable_78 g
    else
      (F_X7_fails 3 (gi g 0 6) g).bind fun g_19 =>
      F_X7_readTable_78 g_19
def F_X7_readTable_28 (g : GM) : Option (GM) :=
  (F_X7_isGood g).bind fun r_20 =>
  if r_20 = 0 then
    F_X7_readTable_47 g
  else
    if (gi g 0 8) = 2 then
      F_X7_readTable_47 g
    else
      (F_X7_wrong g).bind fun g_21 =>
      F_X7_readTable_47 g_21
def F_X7_readTable_17 (g : GM) : Option (GM) :=
  (F_X7_isGood g).bind fun r_22 =>
  if r_22 = 0 then
    F_X7_readTable_28 g
  else
    (F_X7_next g).bind fun g_23 =>
    F_X7_readTable_28 g_23
def F_X7_readTable (g : GM) : Option (GM) :=
  ckB (inB (gi g 0 24) 2) <|
  if (gi g 12 (gi g 0 24).toNatClampNeg) = 5 then
    (F_X7_wrong g).bind fun g_24 =>
    F_X7_readTable_17 g_24
  else
    F_X7_readTable_17 g

-- X7_readValue
def F_X7_readValue_69 (s0 : Int32) (g : GM) : Option (GM) :=
  (F_X7_must s0 g).bind fun g_1 =>
  some g_1
def F_X7_readValue_35 (x1 : Int32) (g : GM) : Option (GM) :=
  ckB (inB x1 160) <|
  lt (si g 11 x1.toNatClampNeg (gi g 0 6)) fun g_2 =>
  ckB (inB x1 160) <|
  lt (si g_2 10 x1.toNatClampNeg (gi g_2 0 9)) fun g_3 =>
  if (gi g_3 0 8) = 4 then
    F_X7_readValue_69 1 g_3
  else
    F_X7_readValue_69 0 g_3
def F_X7_readValue (a1 : Int32) (a2 : Int32) (g : GM) : Option (GM) :=
  ckB (inB a1 160) <|
  lt (si g 10 a1.toNatClampNeg ((-1))) fun g_4 =>
  (F_X7_is 45 g_4).bind fun r_5 =>
  if r_5 = 0 then
    if a2 = 0 then
      F_X7_readValue_35 a1 g_4
    else
      (F_X7_is 35 g_4).bind fun r_6 =>
      (F_X7_must r_6 g_4).bind fun g_7 =>
      F_X7_readValue_35 a1 g_7
  else
    (F_X7_next g_4).bind fun g_8 =>
    some g_8

-- X7_readRow
def F_X7_readRow_246 (x1 : Int32) (x2 : Int32) (g : GM) : Option (GM) :=
  (F_X7_is 59 g).bind fun r_1 =>
  (F_X7_must r_1 g).bind fun g_2 =>
  ckB (inB x2 32) <|
  lt (si g_2 8 x2.toNatClampNeg x1) fun g_3 =>
  ckB (inB x1 10) <|
  ckB (inB x2 32) <|
  lt (si g_3 9 x2.toNatClampNeg (gi g_3 6 x1.toNatClampNeg)) fun g_4 =>
  ckB (inB x1 10) <|
  ckB (inB x1 10) <|
  lt (si g_4 6 x1.toNatClampNeg ((gi g_4 6 x1.toNatClampNeg) + 1)) fun g_5 =>
  ckB (inB (gi g_5 0 24) 2) <|
  ckB (inB (gi g_5 0 24) 2) <|
  lt (si g_5 13 ((gi g_5 0 24).toNatClampNeg) ((gi g_5 13 (gi g_5 0 24).toNatClampNeg) + 1)) fun g_6 =>
  some g_6
def F_X7_readRow_225 (x1 : Int32) (x2 : Int32) (x3 : Int32) (g : GM) : Option (GM) :=
  (F_X7_isGood g).bind fun r_7 =>
  if r_7 = 0 then
    F_X7_readRow_246 x1 x2 g
  else
    ckB (inB x1 10) <|
    if (gi g 5 x1.toNatClampNeg) ≤ x3 then
      F_X7_readRow_246 x1 x2 g
    else
      (F_X7_wrong g).bind fun g_8 =>
      F_X7_readRow_246 x1 x2 g_8
def F_X7_readRow_211 (kb127 : Int32 × Int32 × GM → Option (GM)) (x1 : Int32) (x2 : Int32) (x3 : Int32) (s0 : Int32) (g : GM) : Option (GM) :=
  if s0 = 0 then
    kb127 (x3, s0, g)
  else
    (F_X7_next g).bind fun g_9 =>
    kb127 (x3, s0, g_9)
def F_X7_readRow_210 (kb127 : Int32 × Int32 × GM → Option (GM)) (x1 : Int32) (x2 : Int32) (x3 : Int32) (g : GM) : Option (GM) :=
  F_X7_readRow_211 kb127 x1 x2 x3 0 g
def F_X7_readRow_187 (kb127 : Int32 × Int32 × GM → Option (GM)) (x1 : Int32) (x2 : Int32) (x3 : Int32) (g : GM) : Option (GM) :=
  lt (x3 + 1) fun x3_10 =>
  (F_X7_isGood g).bind fun r_11 =>
  if r_11 = 0 then
    F_X7_readRow_210 kb127 x1 x2 x3_10 g
  else
    (F_X7_is 44 g).bind fun r_12 =>
    if r_12 = 0 then
      F_X7_readRow_210 kb127 x1 x2 x3_10 g
    else
      F_X7_readRow_211 kb127 x1 x2 x3_10 1 g
def F_X7_readRow_184 (kb127 : Int32 × Int32 × GM → Option (GM)) (x1 : Int32) (x2 : Int32) (x3 : Int32) (s0 : Int32) (s1 : Int32) (g : GM) : Option (GM) :=
  (F_X7_readValue s1 s0 g).bind fun g_13 =>
  F_X7_readRow_187 kb127 x1 x2 x3 g_13
def F_X7_readRow_153 (kb127 : Int32 × Int32 × GM → Option (GM)) (x1 : Int32) (x2 : Int32) (x3 : Int32) (g : GM) : Option (GM) :=
  (F_X7_isGood g).bind fun r_14 =>
  if r_14 = 0 then
    F_X7_readRow_187 kb127 x1 x2 x3 g
  else
    ckB (inB ((5 * x1) + x3) 50) <|
    if (gi g 7 ((5 * x1) + x3).toNatClampNeg) < 0 then
      F_X7_readRow_184 kb127 x1 x2 x3 0 ((5 * x2) + x3) g
    else
      F_X7_readRow_184 kb127 x1 x2 x3 1 ((5 * x2) + x3) g
def F_X7_readRow_127B (x1 : Int32) (x2 : Int32) (kb127 : Int32 × Int32 × GM → Option (GM)) : Int32 × Int32 × GM → Option (GM) := fun (x3, x4, g) =>
  if x4 = 0 then
    F_X7_readRow_225 x1 x2 x3 g
  else
    (F_X7_isGood g).bind fun r_15 =>
    if r_15 = 0 then
      F_X7_readRow_225 x1 x2 x3 g
    else
      ckB (inB x1 10) <|
      if x3 = (gi g 5 x1.toNatClampNeg) then
        (F_X7_wrong g).bind fun g_16 =>
        F_X7_readRow_153 kb127 x1 x2 x3 g_16
      else
        F_X7_readRow_153 kb127 x1 x2 x3 g
def F_X7_readRow_82 (x1 : Int32) (g : GM) : Option (GM) :=
  (F_X7_isGood g).bind fun r_17 =>
  if r_17 = 0 then
    some g
  else
    ckB (inB (gi g 0 24) 2) <|
    lt ((16 * (gi g 0 24)) + (gi g 13 (gi g 0 24).toNatClampNeg)) fun x2_18 =>
    (F_X7_next g).bind fun g_19 =>
    (F_X7_is 58 g_19).bind fun r_20 =>
    (F_X7_must r_20 g_19).bind fun g_21 =>
    fixN (F_X7_readRow_127B x1 x2_18) FU (0, 1, g_21)
def F_X7_readRow_48 (g : GM) : Option (GM) :=
  (F_X7_isGood g).bind fun r_22 =>
  if r_22 = 0 then
    some g
  else
    (F_X7_tableOf (gi g 0 24) (gl g 0 10) g).bind fun r_23 =>
    lt r_23 fun x1_24 =>
    if 0 ≤ x1_24 then
      F_X7_readRow_82 x1_24 g
    else
      (F_X7_fails 4 (gi g 0 6) g).bind fun g_25 =>
      F_X7_readRow_82 x1_24 g_25
def F_X7_readRow_29 (g : GM) : Option (GM) :=
  (F_X7_isGood g).bind fun r_26 =>
  if r_26 = 0 then
    F_X7_readRow_48 g
  else
    if (gi g 0 8) = 2 then
      F_X7_readRow_48 g
    else
      (F_X7_wrong g).bind fun g_27 =>
      F_X7_readRow_48 g_27
def F_X7_readRow_18 (g : GM) : Option (GM) :=
  (F_X7_isGood g).bind fun r_28 =>
  if r_28 = 0 then
    F_X7_readRow_29 g
  else
    (F_X7_next g).bind fun g_29 =>
    F_X7_readRow_29 g_29
def F_X7_readRow (g : GM) : Option (GM) :=
  ckB (inB (gi g 0 24) 2) <|
  if (gi g 13 (gi g 0 24).toNatClampNeg) = 16 then
    (F_X7_wrong g).bind fun g_30 =>
    F_X7_readRow_18 g_30
  else
    F_X7_readRow_18 g

-- X7_checkLinks
def F_X7_checkLinks_79 (kb9 : Int32 × GM → Option (GM)) (x1 : Int32) (x2 : Int32) (x3 : Int32) (g : GM) : Option (GM) :=
  lt (x3 + 1) fun x3_1 =>
  kb9 (x3_1, g)
def F_X7_checkLinks_9B (x1 : Int32) (x2 : Int32) (kb9 : Int32 × GM → Option (GM)) : Int32 × GM → Option (GM) := fun (x3, g) =>
  ckB (inB x2 10) <|
  if (gi g 5 x2.toNatClampNeg) ≤ x3 then
    some g
  else
    (F_X7_isGood g).bind fun r_2 =>
    if r_2 = 0 then
      some g
    else
      ckB (inB ((5 * x2) + x3) 50) <|
      lt (gi g 7 ((5 * x2) + x3).toNatClampNeg) fun x4_3 =>
      lt ((5 * x1) + x3) fun x5_4 =>
      if x4_3 < 0 then
        F_X7_checkLinks_79 kb9 x1 x2 x3 g
      else
        ckB (inB x5_4 160) <|
        ckB (inB x4_3 10) <|
        if (gi g 10 x5_4.toNatClampNeg) < (gi g 6 x4_3.toNatClampNeg) then
          F_X7_checkLinks_79 kb9 x1 x2 x3 g
        else
          ckB (inB x5_4 160) <|
          (F_X7_fails 5 (gi g 11 x5_4.toNatClampNeg) g).bind fun g_5 =>
          F_X7_checkLinks_79 kb9 x1 x2 x3 g_5
def F_X7_checkLinks (a1 : Int32) (g : GM) : Option (GM) :=
  ckB (inB a1 32) <|
  lt (gi g 8 a1.toNatClampNeg) fun x2_6 =>
  fixN (F_X7_checkLinks_9B a1 x2_6) FU (0, g)

-- X7_store
def F_X7_store_174B (kb174 : Int32 × GM → Option (Int32 × GM)) : Int32 × GM → Option (Int32 × GM) := fun (x1, g) =>
  if 25 ≤ x1 then
    lt (si g 0 52 0) fun g_1 =>
    ckB (inB (gi g_1 0 23) 2) <|
    some (gi g_1 13 (gi g_1 0 23).toNatClampNeg, g_1)
  else
    ckB (inB x1 25) <|
    lt (si g 32 x1.toNatClampNeg ((-1))) fun g_2 =>
    lt (x1 + 1) fun x1_3 =>
    kb174 (x1_3, g_2)
def F_X7_store_135 (g : GM) : Option (Int32 × GM) :=
  (F_X7_isGood g).bind fun r_4 =>
  if r_4 = 0 then
    some ((-1), g)
  else
    lt (si g 0 23 (gi g 0 24)) fun g_5 =>
    ckB (inB (gi g_5 0 37) 2) <|
    lt (si g_5 14 ((gi g_5 0 37).toNatClampNeg) 0) fun g_6 =>
    lt (si g_6 0 50 0) fun g_7 =>
    lt (si g_7 0 49 0) fun g_8 =>
    fixN (F_X7_store_174B) FU (0, g_8)
def F_X7_store_96B (kb96 : Int32 × GM → Option (Int32 × GM)) : Int32 × GM → Option (Int32 × GM) := fun (x1, g) =>
  ckB (inB (gi g 0 24) 2) <|
  if (gi g 13 (gi g 0 24).toNatClampNeg) ≤ x1 then
    F_X7_store_135 g
  else
    (F_X7_isGood g).bind fun r_9 =>
    if r_9 = 0 then
      F_X7_store_135 g
    else
      (F_X7_checkLinks ((16 * (gi g 0 24)) + x1) g).bind fun g_10 =>
      lt (x1 + 1) fun x1_11 =>
      kb96 (x1_11, g_10)
def F_X7_store_94 (g : GM) : Option (Int32 × GM) :=
  fixN (F_X7_store_96B) FU (0, g)
def F_X7_store_39B (kb39 : GM → Option (Int32 × GM)) : GM → Option (Int32 × GM) := fun g =>
  (F_X7_isGood g).bind fun r_12 =>
  if r_12 = 0 then
    F_X7_store_94 g
  else
    if (gi g 0 8) = 0 then
      F_X7_store_94 g
    else
      (F_X7_isWord 499850046565 g).bind fun r_13 =>
      if r_13 = 0 then
        (F_X7_isWord 7499639 g).bind fun r_14 =>
        if r_14 = 0 then
          (F_X7_wrong g).bind fun g_15 =>
          kb39 g_15
        else
          (F_X7_readRow g).bind fun g_16 =>
          kb39 g_16
      else
        (F_X7_readTable g).bind fun g_17 =>
        kb39 g_17
def F_X7_store (g : GM) : Option (Int32 × GM) :=
  (F_X7_takeTape 0 g).bind fun g_18 =>
  lt (si g_18 0 24 (1 - (gi g_18 0 23))) fun g_19 =>
  ckB (inB (gi g_19 0 24) 2) <|
  lt (si g_19 12 ((gi g_19 0 24).toNatClampNeg) 0) fun g_20 =>
  ckB (inB (gi g_20 0 24) 2) <|
  lt (si g_20 13 ((gi g_20 0 24).toNatClampNeg) 0) fun g_21 =>
  (F_X7_next g_21).bind fun g_22 =>
  fixN (F_X7_store_39B) FU g_22

-- X7_fault
def F_X7_fault (a1 : Int32) (g : GM) : Option (Int32) :=
  if a1 = 0 then
    some (gi g 0 4)
  else
    if a1 = 1 then
      some (gi g 0 5)
    else
      some ((-1))

-- X7_isRow
def F_X7_isRow_21 (g : GM) : Option (Int32) :=
  some 0
def F_X7_isRow (a1 : Int32) (g : GM) : Option (Int32) :=
  if a1 < 0 then
    F_X7_isRow_21 g
  else
    ckB (inB (gi g 0 23) 2) <|
    if (gi g 13 (gi g 0 23).toNatClampNeg) ≤ a1 then
      F_X7_isRow_21 g
    else
      some 1

-- X7_tableAt
def F_X7_tableAt (a1 : Int32) (g : GM) : Option (Int32) :=
  ckB (inB ((16 * (gi g 0 23)) + a1) 32) <|
  some (gi g 8 ((16 * (gi g 0 23)) + a1).toNatClampNeg)

-- X7_numberAt
def F_X7_numberAt (a1 : Int32) (g : GM) : Option (Int32) :=
  ckB (inB ((16 * (gi g 0 23)) + a1) 32) <|
  some (gi g 9 ((16 * (gi g 0 23)) + a1).toNatClampNeg)

-- X7_valueAt
def F_X7_valueAt_87 (kb49 : Int32 → Option (Int32)) (x3 : Int32) (x4 : Int32) (x5 : Int32) (g : GM) : Option (Int32) :=
  lt (x5 + 1) fun x5_1 =>
  kb49 x5_1
def F_X7_valueAt_49B (x3 : Int32) (x4 : Int32) (g : GM) (kb49 : Int32 → Option (Int32)) : Int32 → Option (Int32) := fun x5 =>
  ckB (inB (gi g 0 23) 2) <|
  if (gi g 13 (gi g 0 23).toNatClampNeg) ≤ x5 then
    some ((-1))
  else
    (F_X7_tableAt x5 g).bind fun r_2 =>
    if r_2 = x4 then
      (F_X7_numberAt x5 g).bind fun r_3 =>
      if r_3 = x3 then
        some x5
      else
        F_X7_valueAt_87 kb49 x3 x4 x5 g
    else
      F_X7_valueAt_87 kb49 x3 x4 x5 g
def F_X7_valueAt (a1 : Int32) (a2 : Int32) (g : GM) : Option (Int32) :=
  ckB (inB ((5 * ((16 * (gi g 0 23)) + a1)) + a2) 160) <|
  lt (gi g 10 ((5 * ((16 * (gi g 0 23)) + a1)) + a2).toNatClampNeg) fun x3_4 =>
  (F_X7_tableAt a1 g).bind fun r_5 =>
  ckB (inB ((5 * r_5) + a2) 50) <|
  lt (gi g 7 ((5 * r_5) + a2).toNatClampNeg) fun x4_6 =>
  if x4_6 < 0 then
    some x3_4
  else
    if 0 ≤ x3_4 then
      fixN (F_X7_valueAt_49B x3_4 x4_6 g) FU 0
    else
      some x3_4

-- X7_hasColumn
def F_X7_hasColumn_30 (g : GM) : Option (Int32) :=
  some 0
def F_X7_hasColumn (a1 : Int32) (a2 : Int32) (g : GM) : Option (Int32) :=
  (F_X7_isRow a1 g).bind fun r_1 =>
  if r_1 = 0 then
    F_X7_hasColumn_30 g
  else
    if a2 < 0 then
      F_X7_hasColumn_30 g
    else
      (F_X7_tableAt a1 g).bind fun r_2 =>
      ckB (inB r_2 10) <|
      if (gi g 5 r_2.toNatClampNeg) ≤ a2 then
        F_X7_hasColumn_30 g
      else
        some 1

-- X7_isLink
def F_X7_isLink (a1 : Int32) (a2 : Int32) (g : GM) : Option (Int32) :=
  (F_X7_tableAt a1 g).bind fun r_1 =>
  ckB (inB ((5 * r_1) + a2) 50) <|
  if (gi g 7 ((5 * r_1) + a2).toNatClampNeg) < 0 then
    some 0
  else
    some 1

-- X7_row
def F_X7_row (a1 : Int32) (a2 : Int32) (g : GM) : Option (Int32) :=
  (F_X7_isRow a1 g).bind fun r_1 =>
  if r_1 = 0 then
    some ((-1))
  else
    if a2 = 0 then
      (F_X7_tableAt a1 g).bind fun r_3 =>
      some (r_3 - (5 * (gi g 0 23)))
    else
      if a2 = 1 then
        (F_X7_numberAt a1 g).bind fun r_2 =>
        some r_2
      else
        if a2 = 2 then
          some (((gi g 0 49) >>> (a1 &&& 31)) &&& 1)
        else
          some ((-1))

-- X7_value
def F_X7_value (a1 : Int32) (a2 : Int32) (g : GM) : Option (Int32) :=
  (F_X7_hasColumn a1 a2 g).bind fun r_1 =>
  if r_1 = 0 then
    some ((-1))
  else
    (F_X7_valueAt a1 a2 g).bind fun r_2 =>
    some r_2

-- X7_aTable
def F_X7_aTable_63 (x1 : Int32) (g : GM) : Option (Int32 × GM) :=
  (F_X7_isGood g).bind fun r_1 =>
  if r_1 = 0 then
    some (x1, g)
  else
    (F_X7_next g).bind fun g_2 =>
    some (x1, g_2)
def F_X7_aTable_42 (s0 : Int32) (g : GM) : Option (Int32 × GM) :=
  (F_X7_isGood g).bind fun r_3 =>
  if r_3 = 0 then
    F_X7_aTable_63 s0 g
  else
    if 0 ≤ s0 then
      F_X7_aTable_63 s0 g
    else
      (F_X7_fails 4 (gi g 0 6) g).bind fun g_4 =>
      F_X7_aTable_63 s0 g_4
def F_X7_aTable_19 (g : GM) : Option (Int32 × GM) :=
  (F_X7_isGood g).bind fun r_5 =>
  if r_5 = 0 then
    F_X7_aTable_42 ((-1)) g
  else
    (F_X7_tableOf (gi g 0 23) (gl g 0 10) g).bind fun r_6 =>
    F_X7_aTable_42 r_6 g
def F_X7_aTable (g : GM) : Option (Int32 × GM) :=
  (F_X7_isGood g).bind fun r_7 =>
  if r_7 = 0 then
    F_X7_aTable_19 g
  else
    if (gi g 0 8) = 2 then
      F_X7_aTable_19 g
    else
      (F_X7_wrong g).bind fun g_8 =>
      F_X7_aTable_19 g_8

-- X7_howMany
def F_X7_howMany_53 (g : GM) : Option (Int32 × GM) :=
  lt (gi g 0 9) fun x1_1 =>
  (F_X7_isGood g).bind fun r_2 =>
  if r_2 = 0 then
    some (x1_1, g)
  else
    (F_X7_next g).bind fun g_3 =>
    some (x1_1, g_3)
def F_X7_howMany_43 (g : GM) : Option (Int32 × GM) :=
  (F_X7_fails 6 (gi g 0 6) g).bind fun g_4 =>
  F_X7_howMany_53 g_4
def F_X7_howMany_19 (g : GM) : Option (Int32 × GM) :=
  (F_X7_isGood g).bind fun r_5 =>
  if r_5 = 0 then
    F_X7_howMany_53 g
  else
    if (gi g 0 9) < 1 then
      F_X7_howMany_43 g
    else
      if (gi g 0 9) ≤ 16 then
        F_X7_howMany_53 g
      else
        F_X7_howMany_43 g
def F_X7_howMany (g : GM) : Option (Int32 × GM) :=
  (F_X7_isGood g).bind fun r_6 =>
  if r_6 = 0 then
    F_X7_howMany_19 g
  else
    if (gi g 0 8) = 4 then
      F_X7_howMany_19 g
    else
      (F_X7_wrong g).bind fun g_7 =>
      F_X7_howMany_19 g_7

-- X7_readBy
def F_X7_readBy_70 (x1 : Int32) (x2 : Int32) (g : GM) : Option (GM) :=
  (F_X7_isGood g).bind fun r_1 =>
  if r_1 = 0 then
    some g
  else
    ckB (inB x1 20) <|
    ckB (inB x1 20) <|
    lt (si g 18 x1.toNatClampNeg (x2 - (5 * (gi g 17 x1.toNatClampNeg)))) fun g_2 =>
    (F_X7_next g_2).bind fun g_3 =>
    some g_3
def F_X7_readBy_61 (x1 : Int32) (x2 : Int32) (g : GM) : Option (GM) :=
  (F_X7_fails 4 (gi g 0 6) g).bind fun g_4 =>
  F_X7_readBy_70 x1 x2 g_4
def F_X7_readBy_19 (x1 : Int32) (g : GM) : Option (GM) :=
  (F_X7_isGood g).bind fun r_5 =>
  if r_5 = 0 then
    some g
  else
    ckB (inB x1 20) <|
    (F_X7_columnOf (gi g 17 x1.toNatClampNeg) (gl g 0 10) g).bind fun r_6 =>
    lt r_6 fun x2_7 =>
    if x2_7 < 0 then
      F_X7_readBy_61 x1 x2_7 g
    else
      ckB (inB x2_7 50) <|
      ckB (inB x1 20) <|
      if (gi g 7 x2_7.toNatClampNeg) = (gi g 15 x1.toNatClampNeg) then
        F_X7_readBy_70 x1 x2_7 g
      else
        F_X7_readBy_61 x1 x2_7 g
def F_X7_readBy (a1 : Int32) (g : GM) : Option (GM) :=
  (F_X7_isGood g).bind fun r_8 =>
  if r_8 = 0 then
    F_X7_readBy_19 a1 g
  else
    if (gi g 0 8) = 2 then
      F_X7_readBy_19 a1 g
    else
      (F_X7_wrong g).bind fun g_9 =>
      F_X7_readBy_19 a1 g_9

-- X7_pile
def F_X7_pile (a1 : Int32) (g : GM) : Option (GM) :=
  ckB (inB (gi g 0 43) 60) <|
  lt (si g 26 ((gi g 0 43).toNatClampNeg) a1) fun g_1 =>
  lt (si g_1 0 43 ((gi g_1 0 43) + 1)) fun g_2 =>
  some g_2

-- X7_readPath
def F_X7_readPath_243 (x2 : Int32) (g : GM) : Option (GM) :=
  ckB (inB x2 80) <|
  lt (si g 24 x2.toNatClampNeg ((160 * (gi g 0 38)) + (gi g 0 41))) fun g_1 =>
  some g_1
def F_X7_readPath_240 (kb79 : Int32 × Int32 × Int32 × GM → Option (GM)) (x2 : Int32) (x3 : Int32) (x4 : Int32) (x5 : Int32) (g : GM) : Option (GM) :=
  kb79 (x3, x4, x5, g)
def F_X7_readPath_178 (kb79 : Int32 × Int32 × Int32 × GM → Option (GM)) (x2 : Int32) (x3 : Int32) (x4 : Int32) (x5 : Int32) (x7 : Int32) (g : GM) : Option (GM) :=
  (F_X7_isGood g).bind fun r_2 =>
  if r_2 = 0 then
    some g
  else
    ckB (inB ((160 * (gi g 0 38)) + (gi g 0 41)) 320) <|
    lt (si g 25 (((160 * (gi g 0 38)) + (gi g 0 41)).toNatClampNeg) (x7 - (5 * x3))) fun g_3 =>
    lt (si g_3 0 41 ((gi g_3 0 41) + 1)) fun g_4 =>
    lt (x4 + 1) fun x4_5 =>
    if x5 = 0 then
      F_X7_readPath_240 kb79 x2 x3 x4_5 x5 g_4
    else
      ckB (inB x7 50) <|
      lt (gi g_4 7 x7.toNatClampNeg) fun x3_6 =>
      (F_X7_next g_4).bind fun g_7 =>
      F_X7_readPath_240 kb79 x2 x3_6 x4_5 x5 g_7
def F_X7_readPath_171 (kb79 : Int32 × Int32 × Int32 × GM → Option (GM)) (x2 : Int32) (x3 : Int32) (x4 : Int32) (x5 : Int32) (x6 : Int32) (x7 : Int32) (g : GM) : Option (GM) :=
  (F_X7_fails 4 x6 g).bind fun g_8 =>
  F_X7_readPath_178 kb79 x2 x3 x4 x5 x7 g_8
def F_X7_readPath_166 (kb79 : Int32 × Int32 × Int32 × GM → Option (GM)) (x2 : Int32) (x3 : Int32) (x4 : Int32) (x5 : Int32) (x6 : Int32) (x7 : Int32) (s0 : Int32) (g : GM) : Option (GM) :=
  if s0 = x5 then
    F_X7_readPath_178 kb79 x2 x3 x4 x5 x7 g
  else
    F_X7_readPath_171 kb79 x2 x3 x4 x5 x6 x7 g
def F_X7_readPath_109 (kb79 : Int32 × Int32 × Int32 × GM → Option (GM)) (x2 : Int32) (x3 : Int32) (x4 : Int32) (g : GM) : Option (GM) :=
  (F_X7_isGood g).bind fun r_9 =>
  if r_9 = 0 then
    some g
  else
    lt (gi g 0 6) fun x6_10 =>
    (F_X7_columnOf x3 (gl g 0 10) g).bind fun r_11 =>
    lt r_11 fun x7_12 =>
    (F_X7_next g).bind fun g_13 =>
    (F_X7_is 46 g_13).bind fun r_14 =>
    lt r_14 fun x5_15 =>
    if x7_12 < 0 then
      F_X7_readPath_171 kb79 x2 x3 x4 x5_15 x6_10 x7_12 g_13
    else
      ckB (inB x7_12 50) <|
      if (gi g_13 7 x7_12.toNatClampNeg) < 0 then
        F_X7_readPath_166 kb79 x2 x3 x4 x5_15 x6_10 x7_12 0 g_13
      else
        F_X7_readPath_166 kb79 x2 x3 x4 x5_15 x6_10 x7_12 1 g_13
def F_X7_readPath_105 (kb79 : Int32 × Int32 × Int32 × GM → Option (GM)) (x2 : Int32) (x3 : Int32) (x4 : Int32) (g : GM) : Option (GM) :=
  (F_X7_wrong g).bind fun g_16 =>
  F_X7_readPath_109 kb79 x2 x3 x4 g_16
def F_X7_readPath_79B (x2 : Int32) (kb79 : Int32 × Int32 × Int32 × GM → Option (GM)) : Int32 × Int32 × Int32 × GM → Option (GM) := fun (x3, x4, x5, g) =>
  if x5 = 0 then
    F_X7_readPath_243 x2 g
  else
    (F_X7_isGood g).bind fun r_17 =>
    if r_17 = 0 then
      F_X7_readPath_243 x2 g
    else
      if (gi g 0 8) = 2 then
        if x4 = 4 then
          F_X7_readPath_105 kb79 x2 x3 x4 g
        else
          F_X7_readPath_109 kb79 x2 x3 x4 g
      else
        F_X7_readPath_105 kb79 x2 x3 x4 g
def F_X7_readPath_21 (x1 : Int32) (g : GM) : Option (GM) :=
  (F_X7_isGood g).bind fun r_18 =>
  if r_18 = 0 then
    some g
  else
    lt ((40 * (gi g 0 38)) + (gi g 0 40)) fun x2_19 =>
    ckB (inB x2_19 80) <|
    lt (si g 23 x2_19.toNatClampNeg ((160 * (gi g 0 38)) + (gi g 0 41))) fun g_20 =>
    lt (si g_20 0 40 ((gi g_20 0 40) + 1)) fun g_21 =>
    fixN (F_X7_readPath_79B x2_19) FU (x1, 0, 1, g_21)
def F_X7_readPath_17 (x1 : Int32) (g : GM) : Option (GM) :=
  (F_X7_wrong g).bind fun g_22 =>
  F_X7_readPath_21 x1 g_22
def F_X7_readPath (a1 : Int32) (g : GM) : Option (GM) :=
  if (gi g 0 8) = 2 then
    if (gi g 0 40) = 40 then
      F_X7_readPath_17 a1 g
    else
      F_X7_readPath_21 a1 g
  else
    F_X7_readPath_17 a1 g

-- X7_step
def F_X7_step (a1 : Int32) (a2 : Int32) (g : GM) : Option (GM) :=
  ckB (inB ((600 * (gi g 0 38)) + (gi g 0 39)) 1200) <|
  lt (si g 21 (((600 * (gi g 0 38)) + (gi g 0 39)).toNatClampNeg) a1) fun g_1 =>
  ckB (inB ((600 * (gi g_1 0 38)) + (gi g_1 0 39)) 1200) <|
  lt (si g_1 22 (((600 * (gi g_1 0 38)) + (gi g_1 0 39)).toNatClampNeg) a2) fun g_2 =>
  lt (si g_2 0 39 ((gi g_2 0 39) + 1)) fun g_3 =>
  some g_3

-- X7_one
def F_X7_one_34 (s0 : Int32) (g : GM) : Option (Int32 × GM) :=
  (F_X7_pile s0 g).bind fun g_1 =>
  (F_X7_next g_1).bind fun g_2 =>
  lt (si g_2 0 44 ((gi g_2 0 44) + 1)) fun g_3 =>
  if (gi g_3 0 44) < 6 then
    some (1, g_3)
  else
    (F_X7_wrong g_3).bind fun g_4 =>
    some (1, g_4)
def F_X7_one_19 (g : GM) : Option (Int32 × GM) :=
  (F_X7_is 40 g).bind fun r_5 =>
  if r_5 = 0 then
    F_X7_one_34 3 g
  else
    F_X7_one_34 4 g
def F_X7_one_205 (s0 : Int32) (s1 : Int32) (g : GM) : Option (Int32 × GM) :=
  (F_X7_step s1 s0 g).bind fun g_6 =>
  (F_X7_next g_6).bind fun g_7 =>
  some (0, g_7)
def F_X7_one_157 (x2 : Int32) (g : GM) : Option (Int32 × GM) :=
  (F_X7_isGood g).bind fun r_8 =>
  if r_8 = 0 then
    some (1, g)
  else
    (F_X7_step 112 (((40 * (gi g 0 38)) + (gi g 0 40)) - 1) g).bind fun g_9 =>
    (F_X7_is 45 g_9).bind fun r_10 =>
    if r_10 = 0 then
      F_X7_one_205 (gi g_9 0 9) x2 g_9
    else
      F_X7_one_205 ((-1)) x2 g_9
def F_X7_one_114 (g : GM) : Option (Int32 × GM) :=
  (F_X7_isGood g).bind fun r_11 =>
  if r_11 = 0 then
    some (1, g)
  else
    (F_X7_sign (gi g 0 6) g).bind fun r_12 =>
    lt r_12 fun x2_13 =>
    (F_X7_next g).bind fun g_14 =>
    if (gi g_14 0 8) = 4 then
      F_X7_one_157 x2_13 g_14
    else
      (F_X7_is 45 g_14).bind fun r_15 =>
      if r_15 = 0 then
        (F_X7_wrong g_14).bind fun g_16 =>
        F_X7_one_157 x2_13 g_16
      else
        F_X7_one_157 x2_13 g_14
def F_X7_one (a1 : Int32) (g : GM) : Option (Int32 × GM) :=
  (F_X7_is 40 g).bind fun r_17 =>
  if r_17 = 0 then
    (F_X7_isWord 7237492 g).bind fun r_18 =>
    if r_18 = 0 then
      ckB (inB a1 20) <|
      (F_X7_readPath (gi g 15 a1.toNatClampNeg) g).bind fun g_19 =>
      (F_X7_isGood g_19).bind fun r_20 =>
      if r_20 = 0 then
        F_X7_one_114 g_19
      else
        (F_X7_is 60 g_19).bind fun r_21 =>
        if r_21 = 0 then
          (F_X7_is 62 g_19).bind fun r_22 =>
          if r_22 = 0 then
            (F_X7_is 61 g_19).bind fun r_23 =>
            if r_23 = 0 then
              (F_X7_wrong g_19).bind fun g_24 =>
              F_X7_one_114 g_24
            else
              F_X7_one_114 g_19
          else
            F_X7_one_114 g_19
        else
          F_X7_one_114 g_19
    else
      F_X7_one_19 g
  else
    F_X7_one_19 g

-- X7_behind
def F_X7_behind_139 (x1 : Int32) (g : GM) : Option (Int32 × GM) :=
  if x1 ≤ 0 then
    lt (si g 0 43 ((gi g 0 43) - 1)) fun g_1 =>
    ckB (inB (gi g_1 0 43) 60) <|
    if (gi g_1 26 (gi g_1 0 43).toNatClampNeg) = 4 then
      lt (si g_1 0 44 ((gi g_1 0 44) - 1)) fun g_2 =>
      (F_X7_is 41 g_2).bind fun r_3 =>
      (F_X7_must r_3 g_2).bind fun g_4 =>
      some (0, g_4)
    else
      some (0, g_1)
  else
    (F_X7_pile x1 g).bind fun g_5 =>
    (F_X7_next g_5).bind fun g_6 =>
    some (1, g_6)
def F_X7_behind_132 (kb30 : GM → Option (Int32 × GM)) (x1 : Int32) (s0 : Int32) (g : GM) : Option (Int32 × GM) :=
  (F_X7_step s0 0 g).bind fun g_7 =>
  kb30 g_7
def F_X7_behind_93 (kb30 : GM → Option (Int32 × GM)) (x1 : Int32) (g : GM) : Option (Int32 × GM) :=
  ckB (inB (gi g 0 43) 60) <|
  if (gi g 26 (gi g 0 43).toNatClampNeg) = 3 then
    F_X7_behind_132 kb30 x1 126 g
  else
    ckB (inB (gi g 0 43) 60) <|
    if (gi g 26 (gi g 0 43).toNatClampNeg) = 2 then
      F_X7_behind_132 kb30 x1 38 g
    else
      F_X7_behind_132 kb30 x1 124 g
def F_X7_behind_30B (x1 : Int32) (kb30 : GM → Option (Int32 × GM)) : GM → Option (Int32 × GM) := fun g =>
  ckB (inB ((gi g 0 43) - 1) 60) <|
  if 3 < (gi g 26 ((gi g 0 43) - 1).toNatClampNeg) then
    F_X7_behind_139 x1 g
  else
    ckB (inB ((gi g 0 43) - 1) 60) <|
    if (gi g 26 ((gi g 0 43) - 1).toNatClampNeg) < x1 then
      F_X7_behind_139 x1 g
    else
      lt (si g 0 43 ((gi g 0 43) - 1)) fun g_8 =>
      ckB (inB (gi g_8 0 43) 60) <|
      if (gi g_8 26 (gi g_8 0 43).toNatClampNeg) = 3 then
        lt (si g_8 0 44 ((gi g_8 0 44) - 1)) fun g_9 =>
        F_X7_behind_93 kb30 x1 g_9
      else
        F_X7_behind_93 kb30 x1 g_8
def F_X7_behind_29 (s0 : Int32) (g : GM) : Option (Int32 × GM) :=
  fixN (F_X7_behind_30B s0) FU g
def F_X7_behind (g : GM) : Option (Int32 × GM) :=
  (F_X7_isWord 6385252 g).bind fun r_10 =>
  if r_10 = 0 then
    (F_X7_isWord 28530 g).bind fun r_11 =>
    if r_11 = 0 then
      F_X7_behind_29 0 g
    else
      F_X7_behind_29 1 g
  else
    F_X7_behind_29 2 g

-- X7_e
def F_X7_e_47 (kb17 : Int32 × GM → Option (GM)) (x1 : Int32) (s0 : Int32) (g : GM) : Option (GM) :=
  kb17 (s0, g)
def F_X7_e_17B (x1 : Int32) (kb17 : Int32 × GM → Option (GM)) : Int32 × GM → Option (GM) := fun (x2, g) =>
  (F_X7_isGood g).bind fun r_1 =>
  if r_1 = 0 then
    some g
  else
    if (gi g 0 43) ≤ 0 then
      some g
    else
      if x2 = 0 then
        (F_X7_behind g).bind fun (r_2, g_3) =>
        F_X7_e_47 kb17 x1 r_2 g_3
      else
        (F_X7_one x1 g).bind fun (r_4, g_5) =>
        F_X7_e_47 kb17 x1 r_4 g_5
def F_X7_e (a1 : Int32) (g : GM) : Option (GM) :=
  lt (si g 0 43 0) fun g_6 =>
  lt (si g_6 0 44 0) fun g_7 =>
  (F_X7_pile 5 g_7).bind fun g_8 =>
  fixN (F_X7_e_17B a1) FU (1, g_8)

-- X7_readWish
def F_X7_readWish_199 (x2 : Int32) (g : GM) : Option (GM) :=
  ckB (inB x2 20) <|
  lt (si g 20 x2.toNatClampNeg (gi g 0 39)) fun g_1 =>
  (F_X7_is 59 g_1).bind fun r_2 =>
  (F_X7_must r_2 g_1).bind fun g_3 =>
  ckB (inB (gi g_3 0 38) 2) <|
  ckB (inB (gi g_3 0 38) 2) <|
  lt (si g_3 14 ((gi g_3 0 38).toNatClampNeg) ((gi g_3 14 (gi g_3 0 38).toNatClampNeg) + 1)) fun g_4 =>
  some g_4
def F_X7_readWish_159 (x1 : Int32) (x2 : Int32) (g : GM) : Option (GM) :=
  ckB (inB x2 20) <|
  lt (si g 19 x2.toNatClampNeg (gi g 0 39)) fun g_5 =>
  if x1 = 0 then
    (F_X7_isGood g_5).bind fun r_6 =>
    if r_6 = 0 then
      F_X7_readWish_199 x2 g_5
    else
      (F_X7_isWord 512852587109 g_5).bind fun r_7 =>
      if r_7 = 0 then
        F_X7_readWish_199 x2 g_5
      else
        (F_X7_next g_5).bind fun g_8 =>
        (F_X7_e x2 g_8).bind fun g_9 =>
        F_X7_readWish_199 x2 g_9
  else
    F_X7_readWish_199 x2 g_5
def F_X7_readWish_106 (x1 : Int32) (x2 : Int32) (g : GM) : Option (GM) :=
  (F_X7_howMany g).bind fun (r_10, g_11) =>
  ckB (inB x2 20) <|
  lt (si g_11 16 x2.toNatClampNeg r_10) fun g_12 =>
  if x1 = 0 then
    (F_X7_aTable g_12).bind fun (r_13, g_14) =>
    ckB (inB x2 20) <|
    lt (si g_14 15 x2.toNatClampNeg r_13) fun g_15 =>
    F_X7_readWish_159 x1 x2 g_15
  else
    (F_X7_aTable g_12).bind fun (r_16, g_17) =>
    ckB (inB x2 20) <|
    lt (si g_17 17 x2.toNatClampNeg r_16) fun g_18 =>
    (F_X7_isWord 25209 g_18).bind fun r_19 =>
    (F_X7_must r_19 g_18).bind fun g_20 =>
    (F_X7_readBy x2 g_20).bind fun g_21 =>
    F_X7_readWish_159 x1 x2 g_21
def F_X7_readWish_91 (x1 : Int32) (x2 : Int32) (g : GM) : Option (GM) :=
  if x1 = 0 then
    F_X7_readWish_106 x1 x2 g
  else
    (F_X7_isWord 474147546227 g).bind fun r_22 =>
    (F_X7_must r_22 g).bind fun g_23 =>
    F_X7_readWish_106 x1 x2 g_23
def F_X7_readWish_40 (x1 : Int32) (g : GM) : Option (GM) :=
  (F_X7_isGood g).bind fun r_24 =>
  if r_24 = 0 then
    some g
  else
    ckB (inB (gi g 0 38) 2) <|
    lt ((10 * (gi g 0 38)) + (gi g 14 (gi g 0 38).toNatClampNeg)) fun x2_25 =>
    (F_X7_next g).bind fun g_26 =>
    ckB (inB x2_25 20) <|
    lt (si g_26 17 x2_25.toNatClampNeg ((-1))) fun g_27 =>
    if x1 = 0 then
      F_X7_readWish_91 x1 x2_25 g_27
    else
      (F_X7_aTable g_27).bind fun (r_28, g_29) =>
      ckB (inB x2_25 20) <|
      lt (si g_29 15 x2_25.toNatClampNeg r_28) fun g_30 =>
      F_X7_readWish_91 x1 x2_25 g_30
def F_X7_readWish_36 (x1 : Int32) (g : GM) : Option (GM) :=
  (F_X7_wrong g).bind fun g_31 =>
  F_X7_readWish_40 x1 g_31
def F_X7_readWish_22 (x1 : Int32) (g : GM) : Option (GM) :=
  ckB (inB (gi g 0 38) 2) <|
  if (gi g 14 (gi g 0 38).toNatClampNeg) = 10 then
    F_X7_readWish_36 x1 g
  else
    F_X7_readWish_40 x1 g
def F_X7_readWish (g : GM) : Option (GM) :=
  (F_X7_isWord 7102839 g).bind fun r_32 =>
  lt r_32 fun x1_33 =>
  if x1_33 = 0 then
    (F_X7_isWord 2003399528 g).bind fun r_34 =>
    if r_34 = 0 then
      F_X7_readWish_36 x1_33 g
    else
      F_X7_readWish_22 x1_33 g
  else
    F_X7_readWish_22 x1_33 g

-- X7_wishes
def F_X7_wishes_78 (g : GM) : Option (Int32 × GM) :=
  (F_X7_isGood g).bind fun r_1 =>
  if r_1 = 0 then
    some ((-1), g)
  else
    lt (si g 0 37 (gi g 0 38)) fun g_2 =>
    lt (si g_2 0 52 0) fun g_3 =>
    ckB (inB (gi g_3 0 37) 2) <|
    some (gi g_3 14 (gi g_3 0 37).toNatClampNeg, g_3)
def F_X7_wishes_57B (kb57 : GM → Option (Int32 × GM)) : GM → Option (Int32 × GM) := fun g =>
  (F_X7_isGood g).bind fun r_4 =>
  if r_4 = 0 then
    F_X7_wishes_78 g
  else
    if (gi g 0 8) = 0 then
      F_X7_wishes_78 g
    else
      (F_X7_readWish g).bind fun g_5 =>
      kb57 g_5
def F_X7_wishes (g : GM) : Option (Int32 × GM) :=
  if (gi g 0 2) ≤ 600 then
    (F_X7_takeTape 1 g).bind fun g_6 =>
    lt (si g_6 0 38 (1 - (gi g_6 0 37))) fun g_7 =>
    ckB (inB (gi g_7 0 38) 2) <|
    lt (si g_7 14 ((gi g_7 0 38).toNatClampNeg) 0) fun g_8 =>
    lt (si g_8 0 39 0) fun g_9 =>
    lt (si g_9 0 40 0) fun g_10 =>
    lt (si g_10 0 41 0) fun g_11 =>
    (F_X7_next g_11).bind fun g_12 =>
    fixN (F_X7_wishes_57B) FU g_12
  else
    some ((-2), g)

-- X7_along
def F_X7_along_10B (x1 : Int32) (g : GM) (kb10 : Int32 × Int32 → Option (Int32)) : Int32 × Int32 → Option (Int32) := fun (x3, x4) =>
  ckB (inB x1 80) <|
  if (gi g 24 x1.toNatClampNeg) ≤ x4 then
    some x3
  else
    if x3 < 0 then
      some x3
    else
      ckB (inB x4 320) <|
      (F_X7_valueAt x3 (gi g 25 x4.toNatClampNeg) g).bind fun r_1 =>
      lt r_1 fun x3_2 =>
      lt (x4 + 1) fun x4_3 =>
      kb10 (x3_2, x4_3)
def F_X7_along (a1 : Int32) (a2 : Int32) (g : GM) : Option (Int32) :=
  ckB (inB a1 80) <|
  lt (gi g 23 a1.toNatClampNeg) fun x4_4 =>
  fixN (F_X7_along_10B a1 g) FU (a2, x4_4)

-- X7_related
def F_X7_related_48 : Option (Int32) :=
  some 0
def F_X7_related_44 : Option (Int32) :=
  some 1
def F_X7_related (a0 : Int32) (a1 : Int32) (a2 : Int32) : Option (Int32) :=
  if a0 = 61 then
    if a1 = a2 then
      some 1
    else
      some 0
  else
    if a1 < 0 then
      F_X7_related_48
    else
      if a2 < 0 then
        F_X7_related_48
      else
        if a0 = 60 then
          if a2 ≤ a1 then
            F_X7_related_48
          else
            F_X7_related_44
        else
          if a1 ≤ a2 then
            F_X7_related_48
          else
            F_X7_related_44

-- X7_holdsFor
def F_X7_holdsFor_239 (g : GM) : Option (Int32 × GM) :=
  some (1, g)
def F_X7_holdsFor_220 (kb22 : Int32 × Int32 × Int32 × GM → Option (Int32 × GM)) (x1 : Int32) (x2 : Int32) (x3 : Int32) (x4 : Int32) (x5 : Int32) (g : GM) : Option (Int32 × GM) :=
  lt (x5 + 1) fun x5_1 =>
  kb22 (x3, x4, x5_1, g)
def F_X7_holdsFor_193 (kb22 : Int32 × Int32 × Int32 × GM → Option (Int32 × GM)) (x1 : Int32) (x2 : Int32) (x3 : Int32) (x4 : Int32) (x5 : Int32) (s0 : Int32) (s1 : Int32) (g : GM) : Option (Int32 × GM) :=
  ckB (inB s1 50) <|
  ckB (isZ s0) <|
  lt (si g 27 s1.toNatClampNeg s0) fun g_2 =>
  F_X7_holdsFor_220 kb22 x1 x2 x3 x4 x5 g_2
def F_X7_holdsFor_188 (kb22 : Int32 × Int32 × Int32 × GM → Option (Int32 × GM)) (x1 : Int32) (x2 : Int32) (x3 : Int32) (x4 : Int32) (x5 : Int32) (s0 : Int32) (g : GM) : Option (Int32 × GM) :=
  F_X7_holdsFor_193 kb22 x1 x2 x3 x4 x5 1 s0 g
def F_X7_holdsFor_164 (kb22 : Int32 × Int32 × Int32 × GM → Option (Int32 × GM)) (x1 : Int32) (x2 : Int32) (x3 : Int32) (x4 : Int32) (x5 : Int32) (s0 : Int32) (g : GM) : Option (Int32 × GM) :=
  F_X7_holdsFor_193 kb22 x1 x2 x3 x4 x5 0 s0 g
def F_X7_holdsFor_123 (kb22 : Int32 × Int32 × Int32 × GM → Option (Int32 × GM)) (x1 : Int32) (x2 : Int32) (x3 : Int32) (x4 : Int32) (x5 : Int32) (x6 : Int32) (g : GM) : Option (Int32 × GM) :=
  lt (x3 + (-1)) fun x3_3 =>
  if x6 = 38 then
    ckB (inB (x3_3 - 1) 50) <|
    if (gi g 27 (x3_3 - 1).toNatClampNeg) = 0 then
      F_X7_holdsFor_164 kb22 x1 x2 x3_3 x4 x5 (x3_3 - 1) g
    else
      ckB (inB x3_3 50) <|
      if (gi g 27 x3_3.toNatClampNeg) = 0 then
        F_X7_holdsFor_164 kb22 x1 x2 x3_3 x4 x5 (x3_3 - 1) g
      else
        F_X7_holdsFor_193 kb22 x1 x2 x3_3 x4 x5 1 (x3_3 - 1) g
  else
    ckB (inB (x3_3 - 1) 50) <|
    if (gi g 27 (x3_3 - 1).toNatClampNeg) = 0 then
      ckB (inB x3_3 50) <|
      if (gi g 27 x3_3.toNatClampNeg) = 0 then
        F_X7_holdsFor_193 kb22 x1 x2 x3_3 x4 x5 0 (x3_3 - 1) g
      else
        F_X7_holdsFor_188 kb22 x1 x2 x3_3 x4 x5 (x3_3 - 1) g
    else
      F_X7_holdsFor_188 kb22 x1 x2 x3_3 x4 x5 (x3_3 - 1) g
def F_X7_holdsFor_105 (kb22 : Int32 × Int32 × Int32 × GM → Option (Int32 × GM)) (x1 : Int32) (x2 : Int32) (x3 : Int32) (x4 : Int32) (x5 : Int32) (s0 : Int32) (s1 : Int32) (g : GM) : Option (Int32 × GM) :=
  ckB (inB s1 50) <|
  ckB (isZ s0) <|
  lt (si g 27 s1.toNatClampNeg s0) fun g_4 =>
  F_X7_holdsFor_220 kb22 x1 x2 x3 x4 x5 g_4
def F_X7_holdsFor_22B (x1 : Int32) (x2 : Int32) (kb22 : Int32 × Int32 × Int32 × GM → Option (Int32 × GM)) : Int32 × Int32 × Int32 × GM → Option (Int32 × GM) := fun (x3, x4, x5, g) =>
  ckB (inB x1 20) <|
  if ((600 * (gi g 0 37)) + (gi g 20 x1.toNatClampNeg)) ≤ x5 then
    if x3 = 0 then
      F_X7_holdsFor_239 g
    else
      ckB (inB 0 50) <|
      if (gi g 27 (0 : Int32).toNatClampNeg) = 0 then
        some (0, g)
      else
        F_X7_holdsFor_239 g
  else
    ckB (inB x5 1200) <|
    lt (gi g 21 x5.toNatClampNeg) fun x6_5 =>
    if x6_5 = 112 then
      ckB (inB x5 1200) <|
      (F_X7_along (gi g 22 x5.toNatClampNeg) x2 g).bind fun r_9 =>
      lt r_9 fun x4_10 =>
      F_X7_holdsFor_220 kb22 x1 x2 x3 x4_10 x5 g
    else
      if x6_5 = 126 then
        ckB (inB (x3 - 1) 50) <|
        if (gi g 27 (x3 - 1).toNatClampNeg) = 0 then
          F_X7_holdsFor_105 kb22 x1 x2 x3 x4 x5 1 (x3 - 1) g
        else
          F_X7_holdsFor_105 kb22 x1 x2 x3 x4 x5 0 (x3 - 1) g
      else
        if x6_5 = 38 then
          F_X7_holdsFor_123 kb22 x1 x2 x3 x4 x5 x6_5 g
        else
          if x6_5 = 124 then
            F_X7_holdsFor_123 kb22 x1 x2 x3 x4 x5 x6_5 g
          else
            ckB (inB x5 1200) <|
            (F_X7_related x6_5 x4 (gi g 22 x5.toNatClampNeg)).bind fun r_6 =>
            ckB (inB x3 50) <|
            ckB (isZ r_6) <|
            lt (si g 27 x3.toNatClampNeg r_6) fun g_7 =>
            lt (x3 + 1) fun x3_8 =>
            F_X7_holdsFor_220 kb22 x1 x2 x3_8 x4 x5 g_7
def F_X7_holdsFor (a1 : Int32) (a2 : Int32) (g : GM) : Option (Int32 × GM) :=
  ckB (inB a1 20) <|
  lt ((600 * (gi g 0 37)) + (gi g 19 a1.toNatClampNeg)) fun x5_11 =>
  fixN (F_X7_holdsFor_22B a1 a2) FU (0, (-1), x5_11, g)

-- X7_holds
def F_X7_holds (a1 : Int32) (a2 : Int32) (g : GM) : Option (Int32 × GM) :=
  lt ((10 * (gi g 0 37)) + a1) fun x3_1 =>
  if a1 < 0 then
    some ((-1), g)
  else
    ckB (inB (gi g 0 37) 2) <|
    if (gi g 14 (gi g 0 37).toNatClampNeg) ≤ a1 then
      some ((-1), g)
    else
      ckB (inB x3_1 20) <|
      if 0 ≤ (gi g 17 x3_1.toNatClampNeg) then
        some ((-1), g)
      else
        (F_X7_isRow a2 g).bind fun r_2 =>
        if r_2 = 0 then
          some ((-1), g)
        else
          (F_X7_tableAt a2 g).bind fun r_3 =>
          ckB (inB x3_1 20) <|
          if r_3 = (gi g 15 x3_1.toNatClampNeg) then
            (F_X7_holdsFor x3_1 a2 g).bind fun (r_4, g_5) =>
            if r_4 = 0 then
              some (0, g_5)
            else
              some (1, g_5)
          else
            some ((-1), g)

-- X7_bitsOf
def F_X7_bitsOf_4B (x0 : Int32) (kb4 : Int32 × Int32 → Option (Int32)) : Int32 × Int32 → Option (Int32) := fun (x1, x2) =>
  if 16 ≤ x2 then
    some x1
  else
    lt (x1 + ((x0 >>> (x2 &&& 31)) &&& 1)) fun x1_1 =>
    lt (x2 + 1) fun x2_2 =>
    kb4 (x1_1, x2_2)
def F_X7_bitsOf (a0 : Int32) : Option (Int32) :=
  fixN (F_X7_bitsOf_4B a0) FU (0, 0)

-- X7_lookAt
def F_X7_lookAt_295 (kb87 : Int32 × GM → Option (GM)) (kb119 : Int32 × GM → Option (GM)) (x1 : Int32) (x2 : Int32) (x3 : Int32) (g : GM) : Option (GM) :=
  lt (x3 + 1) fun x3_1 =>
  kb119 (x3_1, g)
def F_X7_lookAt_289 (kb87 : Int32 × GM → Option (GM)) (kb119 : Int32 × GM → Option (GM)) (kb191 : Int32 × GM → Option (GM)) (x1 : Int32) (x2 : Int32) (x3 : Int32) (x4 : Int32) (g : GM) : Option (GM) :=
  lt (x4 + 1) fun x4_2 =>
  kb191 (x4_2, g)
def F_X7_lookAt_191B (kb87 : Int32 × GM → Option (GM)) (kb119 : Int32 × GM → Option (GM)) (x1 : Int32) (x2 : Int32) (x3 : Int32) (kb191 : Int32 × GM → Option (GM)) : Int32 × GM → Option (GM) := fun (x4, g) =>
  ckB (inB (gi g 0 23) 2) <|
  if (gi g 13 (gi g 0 23).toNatClampNeg) ≤ x4 then
    F_X7_lookAt_295 kb87 kb119 x1 x2 x3 g
  else
    ckB (inB x2 20) <|
    if (gi g 17 x2.toNatClampNeg) < 0 then
      F_X7_lookAt_295 kb87 kb119 x1 x2 x3 g
    else
      (F_X7_tableAt x3 g).bind fun r_3 =>
      ckB (inB x2 20) <|
      if r_3 = (gi g 15 x2.toNatClampNeg) then
        (F_X7_tableAt x4 g).bind fun r_4 =>
        ckB (inB x2 20) <|
        if r_4 = (gi g 17 x2.toNatClampNeg) then
          if (((gi g 0 49) >>> (x4 &&& 31)) &&& 1) = 0 then
            ckB (inB x2 20) <|
            (F_X7_valueAt x4 (gi g 18 x2.toNatClampNeg) g).bind fun r_5 =>
            if r_5 = x3 then
              ckB (inB ((16 * x1) + x3) 160) <|
              ckB (inB ((16 * x1) + x3) 160) <|
              lt (si g 30 (((16 * x1) + x3).toNatClampNeg) ((gi g 30 ((16 * x1) + x3).toNatClampNeg) ||| (1 <<< (x4 &&& 31)))) fun g_6 =>
              F_X7_lookAt_289 kb87 kb119 kb191 x1 x2 x3 x4 g_6
            else
              F_X7_lookAt_289 kb87 kb119 kb191 x1 x2 x3 x4 g
          else
            F_X7_lookAt_289 kb87 kb119 kb191 x1 x2 x3 x4 g
        else
          F_X7_lookAt_289 kb87 kb119 kb191 x1 x2 x3 x4 g
      else
        F_X7_lookAt_295 kb87 kb119 x1 x2 x3 g
def F_X7_lookAt_176 (kb87 : Int32 × GM → Option (GM)) (kb119 : Int32 × GM → Option (GM)) (x1 : Int32) (x2 : Int32) (x3 : Int32) (g : GM) : Option (GM) :=
  ckB (inB ((16 * x1) + x3) 160) <|
  lt (si g 30 (((16 * x1) + x3).toNatClampNeg) 0) fun g_7 =>
  fixN (F_X7_lookAt_191B kb87 kb119 x1 x2 x3) FU (0, g_7)
def F_X7_lookAt_119B (kb87 : Int32 × GM → Option (GM)) (x1 : Int32) (x2 : Int32) (kb119 : Int32 × GM → Option (GM)) : Int32 × GM → Option (GM) := fun (x3, g) =>
  ckB (inB (gi g 0 23) 2) <|
  if (gi g 13 (gi g 0 23).toNatClampNeg) ≤ x3 then
    lt (x1 + 1) fun x1_8 =>
    kb87 (x1_8, g)
  else
    ckB (inB x2 20) <|
    if 0 ≤ (gi g 17 x2.toNatClampNeg) then
      F_X7_lookAt_176 kb87 kb119 x1 x2 x3 g
    else
      (F_X7_tableAt x3 g).bind fun r_9 =>
      ckB (inB x2 20) <|
      if r_9 = (gi g 15 x2.toNatClampNeg) then
        (F_X7_holdsFor x2 x3 g).bind fun (r_10, g_11) =>
        if r_10 = 0 then
          F_X7_lookAt_176 kb87 kb119 x1 x2 x3 g_11
        else
          ckB (inB x1 10) <|
          ckB (inB x1 10) <|
          lt (si g_11 29 x1.toNatClampNeg ((gi g_11 29 x1.toNatClampNeg) ||| (1 <<< (x3 &&& 31)))) fun g_12 =>
          F_X7_lookAt_176 kb87 kb119 x1 x2 x3 g_12
      else
        F_X7_lookAt_176 kb87 kb119 x1 x2 x3 g
def F_X7_lookAt_87B (kb87 : Int32 × GM → Option (GM)) : Int32 × GM → Option (GM) := fun (x1, g) =>
  ckB (inB (gi g 0 37) 2) <|
  if (gi g 14 (gi g 0 37).toNatClampNeg) ≤ x1 then
    some g
  else
    lt ((10 * (gi g 0 37)) + x1) fun x2_13 =>
    ckB (inB x1 10) <|
    lt (si g 29 x1.toNatClampNeg 0) fun g_14 =>
    fixN (F_X7_lookAt_119B kb87 x1 x2_13) FU (0, g_14)
def F_X7_lookAt_73 (kb2 : Int32 × GM → Option (GM)) (kb24 : Int32 × GM → Option (GM)) (x1 : Int32) (x2 : Int32) (g : GM) : Option (GM) :=
  lt (x2 + 1) fun x2_15 =>
  kb24 (x2_15, g)
def F_X7_lookAt_24B (kb2 : Int32 × GM → Option (GM)) (x1 : Int32) (kb24 : Int32 × GM → Option (GM)) : Int32 × GM → Option (GM) := fun (x2, g) =>
  (F_X7_tableAt x1 g).bind fun r_16 =>
  ckB (inB r_16 10) <|
  if (gi g 5 r_16.toNatClampNeg) ≤ x2 then
    lt (x1 + 1) fun x1_17 =>
    kb2 (x1_17, g)
  else
    (F_X7_isLink x1 x2 g).bind fun r_18 =>
    if r_18 = 0 then
      F_X7_lookAt_73 kb2 kb24 x1 x2 g
    else
      (F_X7_valueAt x1 x2 g).bind fun r_19 =>
      if r_19 < 0 then
        F_X7_lookAt_73 kb2 kb24 x1 x2 g
      else
        ckB (inB x1 16) <|
        (F_X7_valueAt x1 x2 g).bind fun r_20 =>
        ckB (inB x1 16) <|
        lt (si g 28 x1.toNatClampNeg ((gi g 28 x1.toNatClampNeg) ||| (1 <<< (r_20 &&& 31)))) fun g_21 =>
        F_X7_lookAt_73 kb2 kb24 x1 x2 g_21
def F_X7_lookAt_2B (kb2 : Int32 × GM → Option (GM)) : Int32 × GM → Option (GM) := fun (x1, g) =>
  ckB (inB (gi g 0 23) 2) <|
  if (gi g 13 (gi g 0 23).toNatClampNeg) ≤ x1 then
    fixN (F_X7_lookAt_87B) FU (0, g)
  else
    ckB (inB x1 16) <|
    lt (si g 28 x1.toNatClampNeg 0) fun g_22 =>
    fixN (F_X7_lookAt_24B kb2 x1) FU (0, g_22)
def F_X7_lookAt (g : GM) : Option (GM) :=
  fixN (F_X7_lookAt_2B) FU (0, g)

-- X7_isPiece
def F_X7_isPiece_195 (kb58 : Int32 → Option (Int32)) (x1 : Int32) (x2 : Int32) (g : GM) : Option (Int32) :=
  lt (x2 + 1) fun x2_1 =>
  kb58 x2_1
def F_X7_isPiece_189 (kb58 : Int32 → Option (Int32)) (kb115 : Int32 → Option (Int32)) (x1 : Int32) (x2 : Int32) (x3 : Int32) (x4 : Int32) (g : GM) : Option (Int32) :=
  lt (x4 + 1) fun x4_2 =>
  kb115 x4_2
def F_X7_isPiece_115B (kb58 : Int32 → Option (Int32)) (x1 : Int32) (x2 : Int32) (x3 : Int32) (g : GM) (kb115 : Int32 → Option (Int32)) : Int32 → Option (Int32) := fun x4 =>
  ckB (inB (gi g 0 23) 2) <|
  if (gi g 13 (gi g 0 23).toNatClampNeg) ≤ x4 then
    F_X7_isPiece_195 kb58 x1 x2 g
  else
    ckB (inB x3 20) <|
    if (gi g 17 x3.toNatClampNeg) < 0 then
      F_X7_isPiece_195 kb58 x1 x2 g
    else
      ckB (inB ((16 * x2) + x4) 160) <|
      lt (gi g 30 ((16 * x2) + x4).toNatClampNeg) fun x5_3 =>
      if ((x1 >>> (x4 &&& 31)) &&& 1) = 1 then
        if (x5_3 &&& (x1 ^^^ ((-1)))) = 0 then
          F_X7_isPiece_189 kb58 kb115 x1 x2 x3 x4 g
        else
          (F_X7_bitsOf (x5_3 &&& x1)).bind fun r_4 =>
          ckB (inB x3 20) <|
          if (gi g 16 x3.toNatClampNeg) ≤ r_4 then
            F_X7_isPiece_189 kb58 kb115 x1 x2 x3 x4 g
          else
            some 0
      else
        F_X7_isPiece_189 kb58 kb115 x1 x2 x3 x4 g
def F_X7_isPiece_112 (kb58 : Int32 → Option (Int32)) (x1 : Int32) (x2 : Int32) (x3 : Int32) (g : GM) : Option (Int32) :=
  fixN (F_X7_isPiece_115B kb58 x1 x2 x3 g) FU 0
def F_X7_isPiece_58B (x1 : Int32) (g : GM) (kb58 : Int32 → Option (Int32)) : Int32 → Option (Int32) := fun x2 =>
  ckB (inB (gi g 0 37) 2) <|
  if (gi g 14 (gi g 0 37).toNatClampNeg) ≤ x2 then
    some 1
  else
    lt ((10 * (gi g 0 37)) + x2) fun x3_5 =>
    ckB (inB x3_5 20) <|
    if 0 ≤ (gi g 17 x3_5.toNatClampNeg) then
      F_X7_isPiece_112 kb58 x1 x2 x3_5 g
    else
      ckB (inB x2 10) <|
      (F_X7_bitsOf ((gi g 29 x2.toNatClampNeg) &&& x1)).bind fun r_6 =>
      ckB (inB x3_5 20) <|
      if (gi g 16 x3_5.toNatClampNeg) ≤ r_6 then
        F_X7_isPiece_112 kb58 x1 x2 x3_5 g
      else
        some 0
def F_X7_isPiece_50 (kb13 : Int32 → Option (Int32)) (x1 : Int32) (x2 : Int32) (g : GM) : Option (Int32) :=
  lt (x2 + 1) fun x2_7 =>
  kb13 x2_7
def F_X7_isPiece_13B (x1 : Int32) (g : GM) (kb13 : Int32 → Option (Int32)) : Int32 → Option (Int32) := fun x2 =>
  ckB (inB (gi g 0 23) 2) <|
  if (gi g 13 (gi g 0 23).toNatClampNeg) ≤ x2 then
    fixN (F_X7_isPiece_58B x1 g) FU 0
  else
    if ((x1 >>> (x2 &&& 31)) &&& 1) = 1 then
      ckB (inB x2 16) <|
      if ((gi g 28 x2.toNatClampNeg) &&& (x1 ^^^ ((-1)))) = 0 then
        F_X7_isPiece_50 kb13 x1 x2 g
      else
        some 0
    else
      F_X7_isPiece_50 kb13 x1 x2 g
def F_X7_isPiece (a1 : Int32) (g : GM) : Option (Int32) :=
  if (a1 &&& (gi g 0 49)) = 0 then
    fixN (F_X7_isPiece_13B a1 g) FU 0
  else
    some 0

-- X7_isAhead
def F_X7_isAhead_21 : Option (Int32) :=
  some 0
def F_X7_isAhead (a0 : Int32) (a1 : Int32) : Option (Int32) :=
  lt (a0 ^^^ a1) fun x2_1 =>
  if x2_1 = 0 then
    F_X7_isAhead_21
  else
    if ((a0 &&& x2_1) &&& (-x2_1)) = 0 then
      F_X7_isAhead_21
    else
      some 1

-- X7_know
def F_X7_know_108 (kb24 : Int32 × GM → Option (GM)) (x1 : Int32) (g : GM) : Option (GM) :=
  lt (x1 + 1) fun x1_1 =>
  kb24 (x1_1, g)
def F_X7_know_103 (kb24 : Int32 × GM → Option (GM)) (x1 : Int32) (g : GM) : Option (GM) :=
  lt (si g 0 51 x1) fun g_2 =>
  F_X7_know_108 kb24 x1 g_2
def F_X7_know_60 (kb24 : Int32 × GM → Option (GM)) (x1 : Int32) (g : GM) : Option (GM) :=
  (F_X7_isPiece x1 g).bind fun r_3 =>
  if r_3 = 0 then
    F_X7_know_108 kb24 x1 g
  else
    if (gi g 0 51) < 0 then
      F_X7_know_103 kb24 x1 g
    else
      (F_X7_bitsOf x1).bind fun r_4 =>
      (F_X7_bitsOf (gi g 0 51)).bind fun r_5 =>
      if r_4 < r_5 then
        F_X7_know_103 kb24 x1 g
      else
        (F_X7_isAhead x1 (gi g 0 51)).bind fun r_6 =>
        if r_6 = 0 then
          F_X7_know_108 kb24 x1 g
        else
          F_X7_know_103 kb24 x1 g
def F_X7_know_24B (kb24 : Int32 × GM → Option (GM)) : Int32 × GM → Option (GM) := fun (x1, g) =>
  ckB (inB (gi g 0 23) 2) <|
  if (1 <<< ((gi g 13 (gi g 0 23).toNatClampNeg) &&& 31)) ≤ x1 then
    some g
  else
    if (gi g 0 51) < 0 then
      F_X7_know_60 kb24 x1 g
    else
      (F_X7_bitsOf x1).bind fun r_7 =>
      (F_X7_bitsOf (gi g 0 51)).bind fun r_8 =>
      if r_8 < r_7 then
        F_X7_know_108 kb24 x1 g
      else
        F_X7_know_60 kb24 x1 g
def F_X7_know (g : GM) : Option (GM) :=
  if (gi g 0 52) = 0 then
    lt (si g 0 52 1) fun g_9 =>
    (F_X7_lookAt g_9).bind fun g_10 =>
    lt (si g_10 0 51 ((-1))) fun g_11 =>
    fixN (F_X7_know_24B) FU (0, g_11)
  else
    some g

-- X7_gone
def F_X7_gone_68 (kb28 : Int32 → Option (Int32 × GM)) (x1 : Int32) (x2 : Int32) (g : GM) : Option (Int32 × GM) :=
  lt (x2 + 1) fun x2_1 =>
  kb28 x2_1
def F_X7_gone_28B (x1 : Int32) (g : GM) (kb28 : Int32 → Option (Int32 × GM)) : Int32 → Option (Int32 × GM) := fun x2 =>
  ckB (inB (gi g 0 23) 2) <|
  if (gi g 13 (gi g 0 23).toNatClampNeg) ≤ x2 then
    lt (si g 0 49 ((gi g 0 49) ||| (1 <<< (x1 &&& 31)))) fun g_2 =>
    lt (si g_2 0 52 0) fun g_3 =>
    some (1, g_3)
  else
    if (((gi g 0 49) >>> (x2 &&& 31)) &&& 1) = 0 then
      ckB (inB x2 16) <|
      if (((gi g 28 x2.toNatClampNeg) >>> (x1 &&& 31)) &&& 1) = 1 then
        some (0, g)
      else
        F_X7_gone_68 kb28 x1 x2 g
    else
      F_X7_gone_68 kb28 x1 x2 g
def F_X7_gone (a1 : Int32) (g : GM) : Option (Int32 × GM) :=
  (F_X7_isRow a1 g).bind fun r_4 =>
  if r_4 = 0 then
    some (0, g)
  else
    if (((gi g 0 49) >>> (a1 &&& 31)) &&& 1) = 1 then
      some (0, g)
    else
      (F_X7_lookAt g).bind fun g_5 =>
      fixN (F_X7_gone_28B a1 g_5) FU 0

-- X7_least
def F_X7_least (g : GM) : Option (Int32 × GM) :=
  (F_X7_know g).bind fun g_1 =>
  some (gi g_1 0 51, g_1)

-- X7_keep
def F_X7_keep (g : GM) : Option (Int32 × GM) :=
  (F_X7_know g).bind fun g_1 =>
  if 0 ≤ (gi g_1 0 51) then
    lt (si g_1 0 50 (gi g_1 0 51)) fun g_2 =>
    some (1, g_2)
  else
    some (0, g_1)

-- X7_steady
def F_X7_steady_112 (kb10 : Int32 × Int32 × Int32 → Option (Int32 × GM)) (x1 : Int32) (x2 : Int32) (x3 : Int32) (g : GM) : Option (Int32 × GM) :=
  lt (x3 + 1) fun x3_1 =>
  kb10 (x1, x2, x3_1)
def F_X7_steady_107 (kb10 : Int32 × Int32 × Int32 → Option (Int32 × GM)) (x3 : Int32) (x4 : Int32) (g : GM) : Option (Int32 × GM) :=
  F_X7_steady_112 kb10 x3 x4 x3 g
def F_X7_steady_53 (kb10 : Int32 × Int32 × Int32 → Option (Int32 × GM)) (x1 : Int32) (x2 : Int32) (x3 : Int32) (x4 : Int32) (g : GM) : Option (Int32 × GM) :=
  (F_X7_isPiece x3 g).bind fun r_2 =>
  if r_2 = 0 then
    F_X7_steady_112 kb10 x1 x2 x3 g
  else
    if x1 < 0 then
      F_X7_steady_107 kb10 x3 x4 g
    else
      if x4 = x2 then
        (F_X7_bitsOf x3).bind fun r_3 =>
        (F_X7_bitsOf x1).bind fun r_4 =>
        if r_4 < r_3 then
          F_X7_steady_112 kb10 x1 x2 x3 g
        else
          (F_X7_bitsOf x3).bind fun r_5 =>
          (F_X7_bitsOf x1).bind fun r_6 =>
          if r_5 = r_6 then
            (F_X7_isAhead x3 x1).bind fun r_7 =>
            if r_7 = 0 then
              F_X7_steady_112 kb10 x1 x2 x3 g
            else
              F_X7_steady_107 kb10 x3 x4 g
          else
            F_X7_steady_107 kb10 x3 x4 g
      else
        F_X7_steady_107 kb10 x3 x4 g
def F_X7_steady_10B (g : GM) (kb10 : Int32 × Int32 × Int32 → Option (Int32 × GM)) : Int32 × Int32 × Int32 → Option (Int32 × GM) := fun (x1, x2, x3) =>
  ckB (inB (gi g 0 23) 2) <|
  if (1 <<< ((gi g 13 (gi g 0 23).toNatClampNeg) &&& 31)) ≤ x3 then
    some (x1, g)
  else
    (F_X7_bitsOf ((x3 ^^^ (gi g 0 50)) &&& ((gi g 0 49) ^^^ ((-1))))).bind fun r_8 =>
    lt r_8 fun x4_9 =>
    if x1 < 0 then
      F_X7_steady_53 kb10 x1 x2 x3 x4_9 g
    else
      if x2 < x4_9 then
        F_X7_steady_112 kb10 x1 x2 x3 g
      else
        F_X7_steady_53 kb10 x1 x2 x3 x4_9 g
def F_X7_steady (g : GM) : Option (Int32 × GM) :=
  (F_X7_know g).bind fun g_10 =>
  fixN (F_X7_steady_10B g_10) FU ((-1), 0, 0)

-- X7_piece
def F_X7_piece (a1 : Int32) (g : GM) : Option (Int32 × GM) :=
  if a1 < 0 then
    some ((-1), g)
  else
    ckB (inB (gi g 0 23) 2) <|
    if a1 < (1 <<< ((gi g 13 (gi g 0 23).toNatClampNeg) &&& 31)) then
      (F_X7_know g).bind fun g_1 =>
      (F_X7_isPiece a1 g_1).bind fun r_2 =>
      if r_2 = 0 then
        some (0, g_1)
      else
        some (1, g_1)
    else
      some ((-1), g)

-- X7_why
def F_X7_why_157 (kb111 : Int32 → Option (Int32 × GM)) (x1 : Int32) (x2 : Int32) (g : GM) : Option (Int32 × GM) :=
  lt (x2 + 1) fun x2_1 =>
  kb111 x2_1
def F_X7_why_111B (x1 : Int32) (g : GM) (kb111 : Int32 → Option (Int32 × GM)) : Int32 → Option (Int32 × GM) := fun x2 =>
  ckB (inB (gi g 0 23) 2) <|
  if (gi g 13 (gi g 0 23).toNatClampNeg) ≤ x2 then
    some (3, g)
  else
    if x2 = x1 then
      F_X7_why_157 kb111 x1 x2 g
    else
      if (((gi g 0 51) >>> (x2 &&& 31)) &&& 1) = 1 then
        ckB (inB x2 16) <|
        if (((gi g 28 x2.toNatClampNeg) >>> (x1 &&& 31)) &&& 1) = 1 then
          some (2, g)
        else
          F_X7_why_157 kb111 x1 x2 g
      else
        F_X7_why_157 kb111 x1 x2 g
def F_X7_why_103 (kb32 : Int32 → Option (Int32 × GM)) (x1 : Int32) (x2 : Int32) (g : GM) : Option (Int32 × GM) :=
  lt (x2 + 1) fun x2_2 =>
  kb32 x2_2
def F_X7_why_32B (x1 : Int32) (g : GM) (kb32 : Int32 → Option (Int32 × GM)) : Int32 → Option (Int32 × GM) := fun x2 =>
  ckB (inB (gi g 0 37) 2) <|
  if (gi g 14 (gi g 0 37).toNatClampNeg) ≤ x2 then
    fixN (F_X7_why_111B x1 g) FU 0
  else
    lt ((10 * (gi g 0 37)) + x2) fun x3_3 =>
    ckB (inB x3_3 20) <|
    if 0 ≤ (gi g 17 x3_3.toNatClampNeg) then
      F_X7_why_103 kb32 x1 x2 g
    else
      ckB (inB x2 10) <|
      if (((gi g 29 x2.toNatClampNeg) >>> (x1 &&& 31)) &&& 1) = 1 then
        ckB (inB x2 10) <|
        (F_X7_bitsOf ((gi g 29 x2.toNatClampNeg) &&& (gi g 0 51))).bind fun r_4 =>
        ckB (inB x3_3 20) <|
        if (gi g 16 x3_3.toNatClampNeg) < r_4 then
          F_X7_why_103 kb32 x1 x2 g
        else
          some (1, g)
      else
        F_X7_why_103 kb32 x1 x2 g
def F_X7_why (a1 : Int32) (g : GM) : Option (Int32 × GM) :=
  (F_X7_isRow a1 g).bind fun r_5 =>
  if r_5 = 0 then
    some ((-1), g)
  else
    (F_X7_least g).bind fun (r_6, g_7) =>
    if 0 ≤ r_6 then
      if (((gi g_7 0 51) >>> (a1 &&& 31)) &&& 1) = 0 then
        some (0, g_7)
      else
        fixN (F_X7_why_32B a1 g_7) FU 0
    else
      some ((-1), g_7)

-- X7_place
def F_X7_place_47 (kb9 : Int32 × Int32 × Int32 × GM → Option (Int32 × GM)) (x1 : Int32) (x2 : Int32) (x3 : Int32) (g : GM) : Option (Int32 × GM) :=
  lt (x3 + 1) fun x3_1 =>
  kb9 (x1, x2, x3_1, g)
def F_X7_place_9B (kb9 : Int32 × Int32 × Int32 × GM → Option (Int32 × GM)) : Int32 × Int32 × Int32 × GM → Option (Int32 × GM) := fun (x1, x2, x3, g) =>
  ckB (inB (gi g 0 23) 2) <|
  if (gi g 13 (gi g 0 23).toNatClampNeg) ≤ x3 then
    some (x2, g)
  else
    if ((x1 >>> (x3 &&& 31)) &&& 1) = 0 then
      F_X7_place_47 kb9 x1 x2 x3 g
    else
      ckB (inB x3 16) <|
      if (((gi g 28 x3.toNatClampNeg) &&& x1) &&& ((1 <<< (x3 &&& 31)) ^^^ ((-1)))) = 0 then
        ckB (inB x2 16) <|
        lt (si g 31 x2.toNatClampNeg x3) fun g_2 =>
        lt (x2 + 1) fun x2_3 =>
        lt (x1 ^^^ (1 <<< (x3 &&& 31))) fun x1_4 =>
        kb9 (x1_4, x2_3, 0, g_2)
      else
        F_X7_place_47 kb9 x1 x2 x3 g
def F_X7_place (g : GM) : Option (Int32 × GM) :=
  lt (gi g 0 51) fun x1_5 =>
  fixN (F_X7_place_9B) FU (x1_5, 0, 0, g)

-- X7_order
def F_X7_order_19 (g : GM) : Option (Int32 × GM) :=
  some ((-1), g)
def F_X7_order (a1 : Int32) (g : GM) : Option (Int32 × GM) :=
  (F_X7_least g).bind fun (r_1, g_2) =>
  if r_1 < 0 then
    F_X7_order_19 g_2
  else
    if a1 < 0 then
      F_X7_order_19 g_2
    else
      (F_X7_place g_2).bind fun (r_3, g_4) =>
      if a1 < r_3 then
        ckB (inB a1 16) <|
        some (gi g_4 31 a1.toNatClampNeg, g_4)
      else
        F_X7_order_19 g_4

-- X7_rings
def F_X7_rings (g : GM) : Option (Int32 × GM) :=
  (F_X7_least g).bind fun (r_1, g_2) =>
  if 0 ≤ r_1 then
    (F_X7_bitsOf (gi g_2 0 51)).bind fun r_3 =>
    (F_X7_place g_2).bind fun (r_4, g_5) =>
    some (r_3 - r_4, g_5)
  else
    some ((-1), g_2)

-- X7_isPlain
def F_X7_isPlain_62 (g : GM) : Option (Int32) :=
  some 0
def F_X7_isPlain (a1 : Int32) (a2 : Int32) (g : GM) : Option (Int32) :=
  if a1 < 0 then
    F_X7_isPlain_62 g
  else
    ckB (inB (gi g 0 23) 2) <|
    if (gi g 12 (gi g 0 23).toNatClampNeg) ≤ a1 then
      F_X7_isPlain_62 g
    else
      if a2 < 0 then
        F_X7_isPlain_62 g
      else
        ckB (inB ((5 * (gi g 0 23)) + a1) 10) <|
        if (gi g 5 ((5 * (gi g 0 23)) + a1).toNatClampNeg) ≤ a2 then
          F_X7_isPlain_62 g
        else
          ckB (inB ((5 * ((5 * (gi g 0 23)) + a1)) + a2) 50) <|
          if 0 ≤ (gi g 7 ((5 * ((5 * (gi g 0 23)) + a1)) + a2).toNatClampNeg) then
            F_X7_isPlain_62 g
          else
            some 1

-- X7_hide
def F_X7_hide (a1 : Int32) (a2 : Int32) (a3 : Int32) (g : GM) : Option (Int32 × GM) :=
  (F_X7_isPlain a1 a2 g).bind fun r_1 =>
  if r_1 = 0 then
    some (0, g)
  else
    if a3 < ((-1)) then
      some (0, g)
    else
      if a3 ≤ 9999 then
        ckB (inB ((5 * a1) + a2) 25) <|
        lt (si g 32 (((5 * a1) + a2).toNatClampNeg) a3) fun g_2 =>
        some (1, g_2)
      else
        some (0, g)

-- X7_shown
def F_X7_shown_52 (x3 : Int32) (g : GM) : Option (Int32) :=
  some x3
def F_X7_shown_41 (x3 : Int32) (s0 : Int32) (g : GM) : Option (Int32) :=
  if x3 < 0 then
    F_X7_shown_52 x3 g
  else
    if 0 ≤ s0 then
      some ((((x3.toInt64 * (((2 * s0) + 1).toInt64)) + s0.toInt64) - ((x3.toInt64 * (((2 * s0) + 1).toInt64)) + s0.toInt64) / 1048576 * 1048576).toInt32)
    else
      F_X7_shown_52 x3 g
def F_X7_shown (a1 : Int32) (a2 : Int32) (g : GM) : Option (Int32) :=
  (F_X7_value a1 a2 g).bind fun r_1 =>
  lt r_1 fun x3_2 =>
  (F_X7_hasColumn a1 a2 g).bind fun r_3 =>
  if r_3 = 0 then
    F_X7_shown_41 x3_2 ((-1)) g
  else
    (F_X7_tableAt a1 g).bind fun r_4 =>
    ckB (inB ((5 * (r_4 - (5 * (gi g 0 23)))) + a2) 25) <|
    F_X7_shown_41 x3_2 (gi g 32 ((5 * (r_4 - (5 * (gi g 0 23)))) + a2).toNatClampNeg) g

-- X7_total
def F_X7_total_71 (kb6 : Int32 × Int32 → Option (Int32)) (x1 : Int32) (x2 : Int32) (x3 : Int32) (x4 : Int32) (x5 : Int32) (g : GM) : Option (Int32) :=
  lt (x5 + 1) fun x5_1 =>
  kb6 (x4, x5_1)
def F_X7_total_6B (x1 : Int32) (x2 : Int32) (x3 : Int32) (g : GM) (kb6 : Int32 × Int32 → Option (Int32)) : Int32 × Int32 → Option (Int32) := fun (x4, x5) =>
  ckB (inB (gi g 0 23) 2) <|
  if (gi g 13 (gi g 0 23).toNatClampNeg) ≤ x5 then
    some x4
  else
    if ((x3 >>> (x5 &&& 31)) &&& 1) = 0 then
      F_X7_total_71 kb6 x1 x2 x3 x4 x5 g
    else
      (F_X7_tableAt x5 g).bind fun r_2 =>
      if r_2 = ((5 * (gi g 0 23)) + x1) then
        (F_X7_valueAt x5 x2 g).bind fun r_3 =>
        if 0 ≤ r_3 then
          (F_X7_valueAt x5 x2 g).bind fun r_4 =>
          lt (x4 + r_4) fun x4_5 =>
          F_X7_total_71 kb6 x1 x2 x3 x4_5 x5 g
        else
          F_X7_total_71 kb6 x1 x2 x3 x4 x5 g
      else
        F_X7_total_71 kb6 x1 x2 x3 x4 x5 g
def F_X7_total (a1 : Int32) (a2 : Int32) (a3 : Int32) (g : GM) : Option (Int32) :=
  fixN (F_X7_total_6B a1 a2 a3 g) FU (0, 0)

-- X7_weight
def F_X7_weight_59B (x3 : Int32) (x4 : Int32) (x5 : Int32) (g : GM) (kb59 : Int32 × Int32 → Option (Int32 × GM)) : Int32 × Int32 → Option (Int32 × GM) := fun (x6, x7) =>
  if x7 ≤ 0 then
    if x3 = 0 then
      ckB (nzB x6) <|
      some (x4 / x6, g)
    else
      ckB (nzB x6) <|
      some (x5 / x6, g)
  else
    ckB (nzB x7) <|
    lt (x6 - x6 / x7 * x7) fun x8_1 =>
    kb59 (x7, x8_1)
def F_X7_weight (a1 : Int32) (a2 : Int32) (a3 : Int32) (g : GM) : Option (Int32 × GM) :=
  (F_X7_isPlain a1 a2 g).bind fun r_2 =>
  if r_2 = 0 then
    some ((-1), g)
  else
    (F_X7_least g).bind fun (r_3, g_4) =>
    if 0 ≤ r_3 then
      (F_X7_total a1 a2 ((gi g_4 0 49) ^^^ ((-1))) g_4).bind fun r_5 =>
      lt r_5 fun x4_6 =>
      (F_X7_total a1 a2 (gi g_4 0 51) g_4).bind fun r_7 =>
      lt r_7 fun x5_8 =>
      if x5_8 = 0 then
        some ((-1), g_4)
      else
        fixN (F_X7_weight_59B a3 x4_6 x5_8 g_4) FU (x4_6, x5_8)
    else
      some ((-1), g_4)

-- X7_about
def F_X7_about_168 (g : GM) : Option (Int32) :=
  some ((-1))
def F_X7_about_127 (x1 : Int32) (g : GM) : Option (Int32) :=
  if x1 < 20 then
    F_X7_about_168 g
  else
    ckB (inB (gi g 0 23) 2) <|
    if (20 + (gi g 12 (gi g 0 23).toNatClampNeg)) ≤ x1 then
      F_X7_about_168 g
    else
      ckB (inB (((5 * (gi g 0 23)) + x1) - 20) 10) <|
      some (gi g 6 (((5 * (gi g 0 23)) + x1) - 20).toNatClampNeg)
def F_X7_about (a1 : Int32) (g : GM) : Option (Int32) :=
  if a1 = 0 then
    ckB (inB (gi g 0 23) 2) <|
    some (gi g 12 (gi g 0 23).toNatClampNeg)
  else
    if a1 = 1 then
      ckB (inB (gi g 0 23) 2) <|
      some (gi g 13 (gi g 0 23).toNatClampNeg)
    else
      if a1 = 2 then
        ckB (inB (gi g 0 37) 2) <|
        some (gi g 14 (gi g 0 37).toNatClampNeg)
      else
        if a1 = 3 then
          (F_X7_bitsOf (gi g 0 49)).bind fun r_1 =>
          some r_1
        else
          if a1 = 4 then
            some (gi g 0 50)
          else
            if a1 = 5 then
              some (gi g 0 2)
            else
              if a1 < 10 then
                F_X7_about_127 a1 g
              else
                ckB (inB (gi g 0 23) 2) <|
                if (10 + (gi g 12 (gi g 0 23).toNatClampNeg)) ≤ a1 then
                  F_X7_about_127 a1 g
                else
                  ckB (inB (((5 * (gi g 0 23)) + a1) - 10) 10) <|
                  some (gi g 5 (((5 * (gi g 0 23)) + a1) - 10).toNatClampNeg)

-- X7_feed
def F_X7_feed_71 (kb18 : Int32 × GM → Option (Int32 × GM)) (x1 : Int32) (x2 : Int32) (x3 : Int32) (x4 : Int32) (x5 : Int32) (x6 : Int32) (s0 : Int32) (g : GM) : Option (Int32 × GM) :=
  ckB (inB ((gi g 0 2) + x6) 1220) <|
  lt (si g 1 (((gi g 0 2) + x6).toNatClampNeg) ((s0 >>> ((24 - (8 * (x6 &&& 3))) &&& 31)).toInt8.toInt32).toInt8.toInt32) fun g_1 =>
  lt (x6 + 1) fun x6_2 =>
  kb18 (x6_2, g_1)
def F_X7_feed_18B (x1 : Int32) (x2 : Int32) (x3 : Int32) (x4 : Int32) (x5 : Int32) (kb18 : Int32 × GM → Option (Int32 × GM)) : Int32 × GM → Option (Int32 × GM) := fun (x6, g) =>
  if 20 ≤ x6 then
    lt (si g 0 2 ((gi g 0 2) + 20)) fun g_3 =>
    some (gi g_3 0 2, g_3)
  else
    if 4 ≤ x6 then
      if 8 ≤ x6 then
        if 12 ≤ x6 then
          if 16 ≤ x6 then
            F_X7_feed_71 kb18 x1 x2 x3 x4 x5 x6 x5 g
          else
            F_X7_feed_71 kb18 x1 x2 x3 x4 x5 x6 x4 g
        else
          F_X7_feed_71 kb18 x1 x2 x3 x4 x5 x6 x3 g
      else
        F_X7_feed_71 kb18 x1 x2 x3 x4 x5 x6 x2 g
    else
      F_X7_feed_71 kb18 x1 x2 x3 x4 x5 x6 x1 g
def F_X7_feed (a1 : Int32) (a2 : Int32) (a3 : Int32) (a4 : Int32) (a5 : Int32) (g : GM) : Option (Int32 × GM) :=
  if ((gi g 0 2) + 20) ≤ 1200 then
    fixN (F_X7_feed_18B a1 a2 a3 a4 a5) FU (0, g)
  else
    some ((-1), g)

-- X7_end
def F_X7_end (a1 : Int32) (g : GM) : Option (Int32 × GM) :=
  if a1 < 0 then
    some ((-1), g)
  else
    if a1 ≤ (gi g 0 2) then
      lt (si g 0 2 a1) fun g_1 =>
      some (a1, g_1)
    else
      some ((-1), g)

