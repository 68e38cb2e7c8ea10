def F_X6_least (g : GM) : Option (Int32 × GM) :=
  if (gi g 0 9) = 0 then
    lt (zi g 42) fun g_1 =>
    (F_X0_init (gi g_1 0 7) 0 g_1).bind fun g_2 =>
    (F_X0_cut g_2).bind fun (r_3, g_4) =>
    lt (si g_4 0 10 r_3) fun g_5 =>
    lt (si g_5 0 9 1) fun g_6 =>
    if (gi g_6 0 10) = ((-1)) then
      lt (si g_6 0 11 0) fun g_10 =>
      some (gi g_10 0 10, g_10)
    else
      (F_X2_lineUp_s5 (gi g_6 0 10) g_6).bind fun (r_7, g_8) =>
      lt (si g_8 0 11 r_7) fun g_9 =>
      some (gi g_9 0 10, g_9)
  else
    some (gi g 0 10, g)

def F_X6_steady (g : GM) : Option (Int32 × GM) :=
  if (gi g 0 12) = 0 then
    lt (zi g 42) fun g_1 =>
    (F_X0_init (gi g_1 0 7) (gi g_1 0 8) g_1).bind fun g_2 =>
    (F_X0_cut g_2).bind fun (r_3, g_4) =>
    lt (si g_4 0 13 r_3) fun g_5 =>
    lt (si g_5 0 12 1) fun g_6 =>
    some (gi g_6 0 13, g_6)
  else
    some (gi g 0 13, g)

def F_X6_piece (a1 : Int32) (g : GM) : Option (Int32 × GM) :=
  (F_X2_allRows_s g).bind fun r_1 =>
  if (a1 &&& (r_1 ^^^ ((-1)))) = 0 then
    lt (zi g 42) fun g_2 =>
    (F_X0_init (gi g_2 0 7) 0 g_2).bind fun g_3 =>
    (F_X0_isPiece a1 g_3).bind fun r_4 =>
    if r_4 = 0 then
      some (0, g_3)
    else
      some (1, g_3)
  else
    some ((-1), g)

def F_X6_store (g : GM) : Option (Int32 × GM) :=
  lt (zi g 42) fun g_1 =>
  (F_X3_init g_1).bind fun g_2 =>
  (F_X3_readAll g_2).bind fun (r_3, g_4) =>
  lt r_3 fun x1_5 =>
  lt (si g_4 1 2 0) fun g_6 =>
  if x1_5 = 0 then
    some ((-1), g_6)
  else
    lt (pg swS g_6) fun g_7 =>
    (F_X1_clear_d g_7).bind fun g_8 =>
    lt (si g_8 0 7 0) fun g_9 =>
    lt (si g_9 0 8 0) fun g_10 =>
    (F_J7_fill_53178_4 ((-1)) g_10).bind fun g_11 =>
    (F_X6_forgetPieces g_11).bind fun g_12 =>
    some (gi g_12 6 6, g_12)

def F_X6_wishes (g : GM) : Option (Int32 × GM) :=
  if (gi g 1 2) ≤ 600 then
    lt (zi g 42) fun g_1 =>
    (F_X5_init g_1).bind fun g_2 =>
    (F_X5_readAll g_2).bind fun (r_3, g_4) =>
    lt r_3 fun x1_5 =>
    lt (si g_4 1 2 0) fun g_6 =>
    if x1_5 = 0 then
      some ((-1), g_6)
    else
      lt (pg swD g_6) fun g_7 =>
      (F_X1_lose_d (gi g_7 0 7) g_7).bind fun g_8 =>
      (F_X6_forgetPieces g_8).bind fun g_9 =>
      some (gi g_9 28 0, g_9)
  else
    some ((-2), g)

def F_X6_keep (g : GM) : Option (Int32 × GM) :=
  (F_X6_least g).bind fun (r_1, g_2) =>
  lt r_1 fun x1_3 =>
  if x1_3 = ((-1)) then
    some (0, g_2)
  else
    lt (si g_2 0 8 x1_3) fun g_4 =>
    lt (si g_4 0 12 0) fun g_5 =>
    some (1, g_5)

def F_X6_why (a1 : Int32) (g : GM) : Option (Int32 × GM) :=
  (F_X6_least g).bind fun (r_1, g_2) =>
  lt r_1 fun x2_3 =>
  if x2_3 = ((-1)) then
    some ((-1), g_2)
  else
    (F_X2_hasRow_s a1 g_2).bind fun r_4 =>
    if r_4 = 0 then
      some ((-1), g_2)
    else
      (F_X6_has x2_3 a1).bind fun r_5 =>
      if r_5 = 0 then
        some (0, g_2)
      else
        lt (x2_3 &&& ((1 <<< (a1 &&& 31)) ^^^ ((-1)))) fun x3_6 =>
        (F_X1_wishesMetBy_d x3_6 g_2).bind fun r_7 =>
        if r_7 = 0 then
          some (1, g_2)
        else
          (F_X2_isLinkedFrom_s x3_6 a1 g_2).bind fun r_8 =>
          if r_8 = 0 then
            some (3, g_2)
          else
            some (2, g_2)

def F_X6_order (a1 : Int32) (g : GM) : Option (Int32 × GM) :=
  (F_X6_least g).bind fun (r_1, g_2) =>
  if r_1 = ((-1)) then
    some ((-1), g_2)
  else
    if a1 < 0 then
      some ((-1), g_2)
    else
      if (gi g_2 0 11) ≤ a1 then
        some ((-1), g_2)
      else
        if a1 < 16 then
          ckB (inB a1 16) <|
          some (gi g_2 5 a1.toNatClampNeg, g_2)
        else
          some ((-1), g_2)

def F_X6_rings (g : GM) : Option (Int32 × GM) :=
  (F_X6_least g).bind fun (r_1, g_2) =>
  lt r_1 fun x1_3 =>
  if x1_3 = ((-1)) then
    some ((-1), g_2)
  else
    (F_J6_bitCount_0f7a4 x1_3).bind fun r_4 =>
    some (r_4 - (gi g_2 0 11), g_2)

def F_X6_weight (a1 : Int32) (a2 : Int32) (a3 : Int32) (g : GM) : Option (Int32 × GM) :=
  (F_X6_least g).bind fun (r_1, g_2) =>
  lt r_1 fun x4_3 =>
  if x4_3 = ((-1)) then
    some ((-1), g_2)
  else
    (F_X2_isPlainColumn_s a1 a2 g_2).bind fun r_4 =>
    if r_4 = 0 then
      some ((-1), g_2)
    else
      (F_X2_total_s a1 a2 ((gi g_2 0 7) ^^^ ((-1))) g_2).bind fun r_5 =>
      lt r_5 fun x5_6 =>
      (F_X2_total_s a1 a2 x4_3 g_2).bind fun r_7 =>
      lt r_7 fun x6_8 =>
      (F_X6_commonDivisor x5_6 x6_8).bind fun r_9 =>
      lt r_9 fun x7_10 =>
      if x6_8 = 0 then
        some ((-1), g_2)
      else
        if x7_10 = 0 then
          some ((-1), g_2)
        else
          if a3 = 0 then
            ckB (nzB x7_10) <|
            some (x5_6 / x7_10, g_2)
          else
            ckB (nzB x7_10) <|
            some (x6_8 / x7_10, g_2)

