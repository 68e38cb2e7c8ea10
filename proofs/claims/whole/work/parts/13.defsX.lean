def KX : List (Nat × Nat) := [(6, 14), (4, 11), (10, 1200), (9, 11), (8, 25), (8, 16), (2, 12), (9, 5), (8, 5), (8, 5), (9, 25), (8, 25), (8, 16), (8, 16), (8, 80), (8, 80), (8, 16), (2, 12), (9, 5), (8, 5), (8, 5), (9, 25), (8, 25), (8, 16), (8, 16), (8, 80), (8, 80), (8, 16), (1, 8), (11, 10), (8, 10), (8, 10), (8, 160), (8, 160), (8, 160), (1, 8), (11, 10), (8, 10), (8, 10), (8, 160), (8, 160), (8, 160)]
def HLX : List (Nat × Nat × Nat) := [(0, 0, 1), (0, 1, 4), (0, 2, 5), (0, 3, 6), (0, 4, 17), (0, 5, 28), (0, 6, 35), (1, 0, 2), (1, 1, 3), (6, 1, 7), (6, 2, 8), (6, 3, 9), (6, 4, 10), (6, 5, 11), (6, 7, 12), (6, 8, 13), (6, 9, 14), (6, 10, 15), (6, 11, 16), (17, 1, 18), (17, 2, 19), (17, 3, 20), (17, 4, 21), (17, 5, 22), (17, 7, 23), (17, 8, 24), (17, 9, 25), (17, 10, 26), (17, 11, 27), (28, 1, 29), (28, 2, 30), (28, 3, 31), (28, 5, 32), (28, 6, 33), (28, 7, 34), (35, 1, 36), (35, 2, 37), (35, 3, 38), (35, 5, 39), (35, 6, 40), (35, 7, 41)]
def HX (hr : Nat → Nat → Value) (ad : Nat → Nat) : Prop := ∀ q ∈ HLX, hr q.1 q.2.1 = .ref (ad q.2.2)
theorem hx0_0 {hr : Nat → Nat → Value} {ad : Nat → Nat} (hx : HX hr ad) : hr 0 0 = .ref (ad 1) := hx (0, 0, 1) (List.mem_of_getElem? (i := 0) rfl)
theorem hx0_1 {hr : Nat → Nat → Value} {ad : Nat → Nat} (hx : HX hr ad) : hr 0 1 = .ref (ad 4) := hx (0, 1, 4) (List.mem_of_getElem? (i := 1) rfl)
theorem hx0_2 {hr : Nat → Nat → Value} {ad : Nat → Nat} (hx : HX hr ad) : hr 0 2 = .ref (ad 5) := hx (0, 2, 5) (List.mem_of_getElem? (i := 2) rfl)
theorem hx0_3 {hr : Nat → Nat → Value} {ad : Nat → Nat} (hx : HX hr ad) : hr 0 3 = .ref (ad 6) := hx (0, 3, 6) (List.mem_of_getElem? (i := 3) rfl)
theorem hx0_4 {hr : Nat → Nat → Value} {ad : Nat → Nat} (hx : HX hr ad) : hr 0 4 = .ref (ad 17) := hx (0, 4, 17) (List.mem_of_getElem? (i := 4) rfl)
theorem hx0_5 {hr : Nat → Nat → Value} {ad : Nat → Nat} (hx : HX hr ad) : hr 0 5 = .ref (ad 28) := hx (0, 5, 28) (List.mem_of_getElem? (i := 5) rfl)
theorem hx0_6 {hr : Nat → Nat → Value} {ad : Nat → Nat} (hx : HX hr ad) : hr 0 6 = .ref (ad 35) := hx (0, 6, 35) (List.mem_of_getElem? (i := 6) rfl)
theorem hx1_0 {hr : Nat → Nat → Value} {ad : Nat → Nat} (hx : HX hr ad) : hr 1 0 = .ref (ad 2) := hx (1, 0, 2) (List.mem_of_getElem? (i := 7) rfl)
theorem hx1_1 {hr : Nat → Nat → Value} {ad : Nat → Nat} (hx : HX hr ad) : hr 1 1 = .ref (ad 3) := hx (1, 1, 3) (List.mem_of_getElem? (i := 8) rfl)
theorem hx6_1 {hr : Nat → Nat → Value} {ad : Nat → Nat} (hx : HX hr ad) : hr 6 1 = .ref (ad 7) := hx (6, 1, 7) (List.mem_of_getElem? (i := 9) rfl)
theorem hx6_2 {hr : Nat → Nat → Value} {ad : Nat → Nat} (hx : HX hr ad) : hr 6 2 = .ref (ad 8) := hx (6, 2, 8) (List.mem_of_getElem? (i := 10) rfl)
theorem hx6_3 {hr : Nat → Nat → Value} {ad : Nat → Nat} (hx : HX hr ad) : hr 6 3 = .ref (ad 9) := hx (6, 3, 9) (List.mem_of_getElem? (i := 11) rfl)
theorem hx6_4 {hr : Nat → Nat → Value} {ad : Nat → Nat} (hx : HX hr ad) : hr 6 4 = .ref (ad 10) := hx (6, 4, 10) (List.mem_of_getElem? (i := 12) rfl)
theorem hx6_5 {hr : Nat → Nat → Value} {ad : Nat → Nat} (hx : HX hr ad) : hr 6 5 = .ref (ad 11) := hx (6, 5, 11) (List.mem_of_getElem? (i := 13) rfl)
theorem hx6_7 {hr : Nat → Nat → Value} {ad : Nat → Nat} (hx : HX hr ad) : hr 6 7 = .ref (ad 12) := hx (6, 7, 12) (List.mem_of_getElem? (i := 14) rfl)
theorem hx6_8 {hr : Nat → Nat → Value} {ad : Nat → Nat} (hx : HX hr ad) : hr 6 8 = .ref (ad 13) := hx (6, 8, 13) (List.mem_of_getElem? (i := 15) rfl)
theorem hx6_9 {hr : Nat → Nat → Value} {ad : Nat → Nat} (hx : HX hr ad) : hr 6 9 = .ref (ad 14) := hx (6, 9, 14) (List.mem_of_getElem? (i := 16) rfl)
theorem hx6_10 {hr : Nat → Nat → Value} {ad : Nat → Nat} (hx : HX hr ad) : hr 6 10 = .ref (ad 15) := hx (6, 10, 15) (List.mem_of_getElem? (i := 17) rfl)
theorem hx6_11 {hr : Nat → Nat → Value} {ad : Nat → Nat} (hx : HX hr ad) : hr 6 11 = .ref (ad 16) := hx (6, 11, 16) (List.mem_of_getElem? (i := 18) rfl)
theorem hx17_1 {hr : Nat → Nat → Value} {ad : Nat → Nat} (hx : HX hr ad) : hr 17 1 = .ref (ad 18) := hx (17, 1, 18) (List.mem_of_getElem? (i := 19) rfl)
theorem hx17_2 {hr : Nat → Nat → Value} {ad : Nat → Nat} (hx : HX hr ad) : hr 17 2 = .ref (ad 19) := hx (17, 2, 19) (List.mem_of_getElem? (i := 20) rfl)
theorem hx17_3 {hr : Nat → Nat → Value} {ad : Nat → Nat} (hx : HX hr ad) : hr 17 3 = .ref (ad 20) := hx (17, 3, 20) (List.mem_of_getElem? (i := 21) rfl)
theorem hx17_4 {hr : Nat → Nat → Value} {ad : Nat → Nat} (hx : HX hr ad) : hr 17 4 = .ref (ad 21) := hx (17, 4, 21) (List.mem_of_getElem? (i := 22) rfl)
theorem hx17_5 {hr : Nat → Nat → Value} {ad : Nat → Nat} (hx : HX hr ad) : hr 17 5 = .ref (ad 22) := hx (17, 5, 22) (List.mem_of_getElem? (i := 23) rfl)
theorem hx17_7 {hr : Nat → Nat → Value} {ad : Nat → Nat} (hx : HX hr ad) : hr 17 7 = .ref (ad 23) := hx (17, 7, 23) (List.mem_of_getElem? (i := 24) rfl)
theorem hx17_8 {hr : Nat → Nat → Value} {ad : Nat → Nat} (hx : HX hr ad) : hr 17 8 = .ref (ad 24) := hx (17, 8, 24) (List.mem_of_getElem? (i := 25) rfl)
theorem hx17_9 {hr : Nat → Nat → Value} {ad : Nat → Nat} (hx : HX hr ad) : hr 17 9 = .ref (ad 25) := hx (17, 9, 25) (List.mem_of_getElem? (i := 26) rfl)
theorem hx17_10 {hr : Nat → Nat → Value} {ad : Nat → Nat} (hx : HX hr ad) : hr 17 10 = .ref (ad 26) := hx (17, 10, 26) (List.mem_of_getElem? (i := 27) rfl)
theorem hx17_11 {hr : Nat → Nat → Value} {ad : Nat → Nat} (hx : HX hr ad) : hr 17 11 = .ref (ad 27) := hx (17, 11, 27) (List.mem_of_getElem? (i := 28) rfl)
theorem hx28_1 {hr : Nat → Nat → Value} {ad : Nat → Nat} (hx : HX hr ad) : hr 28 1 = .ref (ad 29) := hx (28, 1, 29) (List.mem_of_getElem? (i := 29) rfl)
theorem hx28_2 {hr : Nat → Nat → Value} {ad : Nat → Nat} (hx : HX hr ad) : hr 28 2 = .ref (ad 30) := hx (28, 2, 30) (List.mem_of_getElem? (i := 30) rfl)
theorem hx28_3 {hr : Nat → Nat → Value} {ad : Nat → Nat} (hx : HX hr ad) : hr 28 3 = .ref (ad 31) := hx (28, 3, 31) (List.mem_of_getElem? (i := 31) rfl)
theorem hx28_5 {hr : Nat → Nat → Value} {ad : Nat → Nat} (hx : HX hr ad) : hr 28 5 = .ref (ad 32) := hx (28, 5, 32) (List.mem_of_getElem? (i := 32) rfl)
theorem hx28_6 {hr : Nat → Nat → Value} {ad : Nat → Nat} (hx : HX hr ad) : hr 28 6 = .ref (ad 33) := hx (28, 6, 33) (List.mem_of_getElem? (i := 33) rfl)
theorem hx28_7 {hr : Nat → Nat → Value} {ad : Nat → Nat} (hx : HX hr ad) : hr 28 7 = .ref (ad 34) := hx (28, 7, 34) (List.mem_of_getElem? (i := 34) rfl)
theorem hx35_1 {hr : Nat → Nat → Value} {ad : Nat → Nat} (hx : HX hr ad) : hr 35 1 = .ref (ad 36) := hx (35, 1, 36) (List.mem_of_getElem? (i := 35) rfl)
theorem hx35_2 {hr : Nat → Nat → Value} {ad : Nat → Nat} (hx : HX hr ad) : hr 35 2 = .ref (ad 37) := hx (35, 2, 37) (List.mem_of_getElem? (i := 36) rfl)
theorem hx35_3 {hr : Nat → Nat → Value} {ad : Nat → Nat} (hx : HX hr ad) : hr 35 3 = .ref (ad 38) := hx (35, 3, 38) (List.mem_of_getElem? (i := 37) rfl)
theorem hx35_5 {hr : Nat → Nat → Value} {ad : Nat → Nat} (hx : HX hr ad) : hr 35 5 = .ref (ad 39) := hx (35, 5, 39) (List.mem_of_getElem? (i := 38) rfl)
theorem hx35_6 {hr : Nat → Nat → Value} {ad : Nat → Nat} (hx : HX hr ad) : hr 35 6 = .ref (ad 40) := hx (35, 6, 40) (List.mem_of_getElem? (i := 39) rfl)
theorem hx35_7 {hr : Nat → Nat → Value} {ad : Nat → Nat} (hx : HX hr ad) : hr 35 7 = .ref (ad 41) := hx (35, 7, 41) (List.mem_of_getElem? (i := 40) rfl)
def HS (hr : Nat → Nat → Value) (ad : Nat → Nat) : Prop := HX hr ad ∧ hr 42 0 = .ref (ad 1) ∧ hr 42 1 = .ref (ad 17)
def HW (hr : Nat → Nat → Value) (ad : Nat → Nat) : Prop := HX hr ad ∧ hr 42 0 = .ref (ad 1) ∧ hr 42 1 = .ref (ad 6) ∧ hr 42 2 = .ref (ad 35) ∧ hr 42 3 = .ref (ad 43)
def HC (hr : Nat → Nat → Value) (ad : Nat → Nat) : Prop := HX hr ad ∧ hr 42 0 = .ref (ad 6) ∧ hr 42 1 = .ref (ad 28)
theorem kx0 (tl : List (Nat × Nat)) : (KX ++ tl)[0]? = some (6, NN 6) := rfl
theorem kx1 (tl : List (Nat × Nat)) : (KX ++ tl)[1]? = some (4, NN 4) := rfl
theorem kx2 (tl : List (Nat × Nat)) : (KX ++ tl)[2]? = some (10, 1200) := rfl
theorem kx3 (tl : List (Nat × Nat)) : (KX ++ tl)[3]? = some (9, 11) := rfl
theorem kx4 (tl : List (Nat × Nat)) : (KX ++ tl)[4]? = some (8, 25) := rfl
theorem kx5 (tl : List (Nat × Nat)) : (KX ++ tl)[5]? = some (8, 16) := rfl
theorem kx6 (tl : List (Nat × Nat)) : (KX ++ tl)[6]? = some (2, NN 2) := rfl
theorem kx7 (tl : List (Nat × Nat)) : (KX ++ tl)[7]? = some (9, 5) := rfl
theorem kx8 (tl : List (Nat × Nat)) : (KX ++ tl)[8]? = some (8, 5) := rfl
theorem kx9 (tl : List (Nat × Nat)) : (KX ++ tl)[9]? = some (8, 5) := rfl
theorem kx10 (tl : List (Nat × Nat)) : (KX ++ tl)[10]? = some (9, 25) := rfl
theorem kx11 (tl : List (Nat × Nat)) : (KX ++ tl)[11]? = some (8, 25) := rfl
theorem kx12 (tl : List (Nat × Nat)) : (KX ++ tl)[12]? = some (8, 16) := rfl
theorem kx13 (tl : List (Nat × Nat)) : (KX ++ tl)[13]? = some (8, 16) := rfl
theorem kx14 (tl : List (Nat × Nat)) : (KX ++ tl)[14]? = some (8, 80) := rfl
theorem kx15 (tl : List (Nat × Nat)) : (KX ++ tl)[15]? = some (8, 80) := rfl
theorem kx16 (tl : List (Nat × Nat)) : (KX ++ tl)[16]? = some (8, 16) := rfl
theorem kx17 (tl : List (Nat × Nat)) : (KX ++ tl)[17]? = some (2, NN 2) := rfl
theorem kx18 (tl : List (Nat × Nat)) : (KX ++ tl)[18]? = some (9, 5) := rfl
theorem kx19 (tl : List (Nat × Nat)) : (KX ++ tl)[19]? = some (8, 5) := rfl
theorem kx20 (tl : List (Nat × Nat)) : (KX ++ tl)[20]? = some (8, 5) := rfl
theorem kx21 (tl : List (Nat × Nat)) : (KX ++ tl)[21]? = some (9, 25) := rfl
theorem kx22 (tl : List (Nat × Nat)) : (KX ++ tl)[22]? = some (8, 25) := rfl
theorem kx23 (tl : List (Nat × Nat)) : (KX ++ tl)[23]? = some (8, 16) := rfl
theorem kx24 (tl : List (Nat × Nat)) : (KX ++ tl)[24]? = some (8, 16) := rfl
theorem kx25 (tl : List (Nat × Nat)) : (KX ++ tl)[25]? = some (8, 80) := rfl
theorem kx26 (tl : List (Nat × Nat)) : (KX ++ tl)[26]? = some (8, 80) := rfl
theorem kx27 (tl : List (Nat × Nat)) : (KX ++ tl)[27]? = some (8, 16) := rfl
theorem kx28 (tl : List (Nat × Nat)) : (KX ++ tl)[28]? = some (1, NN 1) := rfl
theorem kx29 (tl : List (Nat × Nat)) : (KX ++ tl)[29]? = some (11, 10) := rfl
theorem kx30 (tl : List (Nat × Nat)) : (KX ++ tl)[30]? = some (8, 10) := rfl
theorem kx31 (tl : List (Nat × Nat)) : (KX ++ tl)[31]? = some (8, 10) := rfl
theorem kx32 (tl : List (Nat × Nat)) : (KX ++ tl)[32]? = some (8, 160) := rfl
theorem kx33 (tl : List (Nat × Nat)) : (KX ++ tl)[33]? = some (8, 160) := rfl
theorem kx34 (tl : List (Nat × Nat)) : (KX ++ tl)[34]? = some (8, 160) := rfl
theorem kx35 (tl : List (Nat × Nat)) : (KX ++ tl)[35]? = some (1, NN 1) := rfl
theorem kx36 (tl : List (Nat × Nat)) : (KX ++ tl)[36]? = some (11, 10) := rfl
theorem kx37 (tl : List (Nat × Nat)) : (KX ++ tl)[37]? = some (8, 10) := rfl
theorem kx38 (tl : List (Nat × Nat)) : (KX ++ tl)[38]? = some (8, 10) := rfl
theorem kx39 (tl : List (Nat × Nat)) : (KX ++ tl)[39]? = some (8, 160) := rfl
theorem kx40 (tl : List (Nat × Nat)) : (KX ++ tl)[40]? = some (8, 160) := rfl
theorem kx41 (tl : List (Nat × Nat)) : (KX ++ tl)[41]? = some (8, 160) := rfl
theorem kLS42 : (KX ++ [(3, 2)])[42]? = some (3, NN 3) := rfl
theorem kLW42 : (KX ++ [(5, 7), (8, 4)])[42]? = some (5, NN 5) := rfl
theorem kLW43 : (KX ++ [(5, 7), (8, 4)])[43]? = some (8, 4) := rfl
theorem kLC42 : (KX ++ [(0, 6)])[42]? = some (0, NN 0) := rfl
theorem kc81 : Cond.constantLong RX4 41 (32) ∈ lw_ok := ok_t1 (i := 81) ⟨rfl, rfl⟩
theorem kc765 : Cond.constantLong RX6 206 (1048576) ∈ lw_ok := ok_t4 (i := 45) ⟨rfl, rfl⟩
-- X4_append 
def F_X4_append_3B (x1 : Int32) (kb3 : Int32 × GM → Option (GM)) : Int32 × GM → Option (GM) := fun (x2, g) =>
  if x2 < 0 then
    some g
  else
    if 1200 ≤ (gi g 1 2) then
      some g
    else
      ckB (inB (gi g 1 2) 1200) <|
      lt (si g 2 ((gi g 1 2).toNatClampNeg) ((x1 >>> (x2 &&& 31)).toInt8.toInt32).toInt8.toInt32) fun g_1 =>
      lt (si g_1 1 2 ((gi g_1 1 2) + 1)) fun g_2 =>
      lt (x2 + (-8)) fun x2_3 =>
      kb3 (x2_3, g_2)
def F_X4_append (a1 : Int32) (g : GM) : Option (GM) :=
  fixN (F_X4_append_3B a1) FU (24, g)

-- X6_feed 
def F_X6_feed (a1 : Int32) (a2 : Int32) (a3 : Int32) (a4 : Int32) (a5 : Int32) (g : GM) : Option (Int32 × GM) :=
  if ((gi g 1 2) + 20) ≤ 1200 then
    (F_X4_append a1 g).bind fun g_1 =>
    (F_X4_append a2 g_1).bind fun g_2 =>
    (F_X4_append a3 g_2).bind fun g_3 =>
    (F_X4_append a4 g_3).bind fun g_4 =>
    (F_X4_append a5 g_4).bind fun g_5 =>
    some (gi g_5 1 2, g_5)
  else
    some ((-1), g)

-- X6_end 
def F_X6_end (a1 : Int32) (g : GM) : Option (Int32 × GM) :=
  if a1 < 0 then
    some ((-1), g)
  else
    if a1 ≤ (gi g 1 2) then
      lt (si g 1 2 a1) fun g_1 =>
      some (a1, g_1)
    else
      some ((-1), g)

-- X6_fault 
def F_X6_fault (a1 : Int32) (g : GM) : Option (Int32) :=
  if a1 = 0 then
    some (gi g 1 9)
  else
    if a1 = 1 then
      some (gi g 1 10)
    else
      some ((-1))

-- X2_hasRow s
def F_X2_hasRow_s_16 (g : GM) : Option (Int32) :=
  some 0
def F_X2_hasRow_s (a1 : Int32) (g : GM) : Option (Int32) :=
  if a1 < 0 then
    F_X2_hasRow_s_16 g
  else
    if (gi g 6 6) ≤ a1 then
      F_X2_hasRow_s_16 g
    else
      some 1

-- X6_has 
def F_X6_has (a0 : Int32) (a1 : Int32) : Option (Int32) :=
  if ((a0 >>> (a1 &&& 31)) &&& 1) = 0 then
    some 0
  else
    some 1

-- X6_row 
def F_X6_row (a1 : Int32) (a2 : Int32) (g : GM) : Option (Int32) :=
  (F_X2_hasRow_s a1 g).bind fun r_1 =>
  if r_1 = 0 then
    some ((-1))
  else
    if a2 = 0 then
      ckB (inB a1 16) <|
      some (gi g 12 a1.toNatClampNeg)
    else
      if a2 = 1 then
        ckB (inB a1 16) <|
        some (gi g 13 a1.toNatClampNeg)
      else
        if a2 = 2 then
          (F_X6_has (gi g 0 7) a1).bind fun r_2 =>
          if r_2 = 0 then
            some 0
          else
            some 1
        else
          some ((-1))

-- X2_cell s
def F_X2_cell_s (a1 : Int32) (a2 : Int32) (g : GM) : Option (Int32) :=
  if a1 < 0 then
    some ((-1))
  else
    if (gi g 6 6) ≤ a1 then
      some ((-1))
    else
      if a2 < 0 then
        some ((-1))
      else
        if a2 < 5 then
          ckB (inB ((a1 * 5) + a2) 80) <|
          some (gi g 14 ((a1 * 5) + a2).toNatClampNeg)
        else
          some ((-1))

-- X6_value 
def F_X6_value (a1 : Int32) (a2 : Int32) (g : GM) : Option (Int32) :=
  (F_X2_cell_s a1 a2 g).bind fun r_1 =>
  some r_1

-- X1_isWish d
def F_X1_isWish_d_25 (g : GM) : Option (Int32) :=
  some 0
def F_X1_isWish_d (a1 : Int32) (g : GM) : Option (Int32) :=
  if a1 < 0 then
    F_X1_isWish_d_25 g
  else
    if (gi g 28 0) ≤ a1 then
      F_X1_isWish_d_25 g
    else
      ckB (inB a1 10) <|
      if (gi g 29 a1.toNatClampNeg) = 0 then
        some 1
      else
        F_X1_isWish_d_25 g

-- X6_holds 
def F_X6_holds (a1 : Int32) (a2 : Int32) (g : GM) : Option (Int32) :=
  (F_X1_isWish_d a1 g).bind fun r_1 =>
  if r_1 = 0 then
    some ((-1))
  else
    (F_X2_hasRow_s a2 g).bind fun r_2 =>
    if r_2 = 0 then
      some ((-1))
    else
      ckB (inB a2 16) <|
      ckB (inB a1 10) <|
      if (gi g 12 a2.toNatClampNeg) = (gi g 30 a1.toNatClampNeg) then
        ckB (inB a1 10) <|
        (F_X6_has (gi g 31 a1.toNatClampNeg) a2).bind fun r_3 =>
        if r_3 = 0 then
          some 0
        else
          some 1
      else
        some ((-1))

-- X2_isLinkedFrom s
def F_X2_isLinkedFrom_s_33 (kb2 : Int32 → Option (Int32)) (x1 : Int32) (x2 : Int32) (x3 : Int32) (g : GM) : Option (Int32) :=
  lt (x3 + 1) fun x3_1 =>
  kb2 x3_1
def F_X2_isLinkedFrom_s_2B (x1 : Int32) (x2 : Int32) (g : GM) (kb2 : Int32 → Option (Int32)) : Int32 → Option (Int32) := fun x3 =>
  if (gi g 6 6) ≤ x3 then
    some 0
  else
    (F_X6_has x1 x3).bind fun r_2 =>
    if r_2 = 0 then
      F_X2_isLinkedFrom_s_33 kb2 x1 x2 x3 g
    else
      ckB (inB x3 16) <|
      (F_X6_has (gi g 16 x3.toNatClampNeg) x2).bind fun r_3 =>
      if r_3 = 0 then
        F_X2_isLinkedFrom_s_33 kb2 x1 x2 x3 g
      else
        some 1
def F_X2_isLinkedFrom_s (a1 : Int32) (a2 : Int32) (g : GM) : Option (Int32) :=
  fixN (F_X2_isLinkedFrom_s_2B a1 a2 g) FU 0

-- X1_lose d
def F_X1_lose_d_55 (kb2 : Int32 × GM → Option (GM)) (x1 : Int32) (x2 : Int32) (g : GM) : Option (GM) :=
  lt (x2 + 1) fun x2_1 =>
  kb2 (x2_1, g)
def F_X1_lose_d_2B (x1 : Int32) (kb2 : Int32 × GM → Option (GM)) : Int32 × GM → Option (GM) := fun (x2, g) =>
  if (gi g 28 4) ≤ x2 then
    some g
  else
    ckB (inB x2 160) <|
    ckB (inB x2 160) <|
    lt (si g 34 x2.toNatClampNeg ((gi g 34 x2.toNatClampNeg) &&& (x1 ^^^ ((-1))))) fun g_2 =>
    ckB (inB x2 160) <|
    if (gi g_2 32 x2.toNatClampNeg) = 0 then
      F_X1_lose_d_55 kb2 x1 x2 g_2
    else
      ckB (inB x2 160) <|
      ckB (inB x2 160) <|
      (F_J6_bitCount_0f7a4 (gi g_2 34 x2.toNatClampNeg)).bind fun r_3 =>
      (F_J9_min_7cf53 (gi g_2 33 x2.toNatClampNeg) r_3).bind fun r_4 =>
      ckB (inB x2 160) <|
      lt (si g_2 33 x2.toNatClampNeg r_4) fun g_5 =>
      F_X1_lose_d_55 kb2 x1 x2 g_5
def F_X1_lose_d (a1 : Int32) (g : GM) : Option (GM) :=
  fixN (F_X1_lose_d_2B a1) FU (0, g)

-- X6_forgetPieces 
def F_X6_forgetPieces (g : GM) : Option (GM) :=
  lt (si g 0 9 0) fun g_1 =>
  lt (si g_1 0 12 0) fun g_2 =>
  some g_2

-- X6_gone 
def F_X6_gone (a1 : Int32) (g : GM) : Option (Int32 × GM) :=
  (F_X2_hasRow_s a1 g).bind fun r_1 =>
  if r_1 = 0 then
    some (0, g)
  else
    (F_X6_has (gi g 0 7) a1).bind fun r_2 =>
    if r_2 = 0 then
      (F_X2_isLinkedFrom_s ((gi g 0 7) ^^^ ((-1))) a1 g).bind fun r_3 =>
      if r_3 = 0 then
        lt (si g 0 7 ((gi g 0 7) ||| (1 <<< (a1 &&& 31)))) fun g_4 =>
        (F_X1_lose_d (gi g_4 0 7) g_4).bind fun g_5 =>
        (F_X6_forgetPieces g_5).bind fun g_6 =>
        some (1, g_6)
      else
        some (0, g)
    else
      some (0, g)

-- X2_hasColumn s
def F_X2_hasColumn_s_30 (g : GM) : Option (Int32) :=
  some 0
def F_X2_hasColumn_s (a1 : Int32) (a2 : Int32) (g : GM) : Option (Int32) :=
  if a1 < 0 then
    F_X2_hasColumn_s_30 g
  else
    if (gi g 6 0) ≤ a1 then
      F_X2_hasColumn_s_30 g
    else
      if a2 < 0 then
        F_X2_hasColumn_s_30 g
      else
        ckB (inB a1 5) <|
        if (gi g 8 a1.toNatClampNeg) ≤ a2 then
          F_X2_hasColumn_s_30 g
        else
          some 1

-- X6_slot 
def F_X6_slot (a0 : Int32) (a1 : Int32) : Option (Int32) :=
  some ((a0 * 5) + a1)

-- X2_isPlainColumn s
def F_X2_isPlainColumn_s_27 (g : GM) : Option (Int32) :=
  some 0
def F_X2_isPlainColumn_s (a1 : Int32) (a2 : Int32) (g : GM) : Option (Int32) :=
  (F_X2_hasColumn_s a1 a2 g).bind fun r_1 =>
  if r_1 = 0 then
    F_X2_isPlainColumn_s_27 g
  else
    (F_X6_slot a1 a2).bind fun r_2 =>
    ckB (inB r_2 25) <|
    if (gi g 11 r_2.toNatClampNeg) = ((-1)) then
      some 1
    else
      F_X2_isPlainColumn_s_27 g

-- X6_hide 
def F_X6_hide (a1 : Int32) (a2 : Int32) (a3 : Int32) (g : GM) : Option (Int32 × GM) :=
  (F_X2_isPlainColumn_s a1 a2 g).bind fun r_1 =>
  if r_1 = 0 then
    some (0, g)
  else
    if a3 < ((-1)) then
      some (0, g)
    else
      if a3 ≤ 9999 then
        (F_X6_slot a1 a2).bind fun r_2 =>
        ckB (inB r_2 25) <|
        lt (si g 4 r_2.toNatClampNeg a3) fun g_3 =>
        some (1, g_3)
      else
        some (0, g)

-- X6_turned 
def F_X6_turned (a0 : Int32) (a1 : Int32) : Option (Int32) :=
  some ((((a0.toInt64 * (((2 * a1) + 1).toInt64)) + a1.toInt64) - ((a0.toInt64 * (((2 * a1) + 1).toInt64)) + a1.toInt64) / 1048576 * 1048576).toInt32)

-- X6_shown 
def F_X6_shown (a1 : Int32) (a2 : Int32) (g : GM) : Option (Int32) :=
  (F_X2_cell_s a1 a2 g).bind fun r_1 =>
  lt r_1 fun x3_2 =>
  if x3_2 = ((-1)) then
    some ((-1))
  else
    (F_X2_hasRow_s a1 g).bind fun r_3 =>
    if r_3 = 0 then
      some ((-1))
    else
      ckB (inB a1 16) <|
      (F_X6_slot (gi g 12 a1.toNatClampNeg) a2).bind fun r_4 =>
      ckB (inB r_4 25) <|
      lt (gi g 4 r_4.toNatClampNeg) fun x4_5 =>
      if x4_5 = ((-1)) then
        some x3_2
      else
        (F_X6_turned x3_2 x4_5).bind fun r_6 =>
        some r_6

-- X2_hasTable s
def F_X2_hasTable_s_16 (g : GM) : Option (Int32) :=
  some 0
def F_X2_hasTable_s (a1 : Int32) (g : GM) : Option (Int32) :=
  if a1 < 0 then
    F_X2_hasTable_s_16 g
  else
    if (gi g 6 0) ≤ a1 then
      F_X2_hasTable_s_16 g
    else
      some 1

-- X6_aboutTable 
def F_X6_aboutTable_33 (x1 : Int32) (g : GM) : Option (Int32) :=
  if x1 < 20 then
    some ((-1))
  else
    (F_X2_hasTable_s (x1 - 20) g).bind fun r_1 =>
    if r_1 = 0 then
      some ((-1))
    else
      ckB (inB (x1 - 20) 5) <|
      some (gi g 9 (x1 - 20).toNatClampNeg)
def F_X6_aboutTable (a1 : Int32) (g : GM) : Option (Int32) :=
  if a1 < 10 then
    F_X6_aboutTable_33 a1 g
  else
    (F_X2_hasTable_s (a1 - 10) g).bind fun r_2 =>
    if r_2 = 0 then
      F_X6_aboutTable_33 a1 g
    else
      ckB (inB (a1 - 10) 5) <|
      some (gi g 8 (a1 - 10).toNatClampNeg)

-- X6_about 
def F_X6_about (a1 : Int32) (g : GM) : Option (Int32) :=
  if a1 = 0 then
    some (gi g 6 0)
  else
    if a1 = 1 then
      some (gi g 6 6)
    else
      if a1 = 2 then
        some (gi g 28 0)
      else
        if a1 = 3 then
          (F_J6_bitCount_0f7a4 (gi g 0 7)).bind fun r_2 =>
          some r_2
        else
          if a1 = 4 then
            some (gi g 0 8)
          else
            if a1 = 5 then
              some (gi g 1 2)
            else
              (F_X6_aboutTable a1 g).bind fun r_1 =>
              some r_1

-- X6_commonDivisor 
def F_X6_commonDivisor_7B (kb7 : Int32 × Int32 × Int32 → Option (Int32)) : Int32 × Int32 × Int32 → Option (Int32) := fun (x2, x3, x4) =>
  if 64 ≤ x4 then
    some x2
  else
    if x3 = 0 then
      some x2
    else
      ckB (nzB x3) <|
      lt (x2 - x2 / x3 * x3) fun x5_1 =>
      lt (x4 + 1) fun x4_2 =>
      kb7 (x3, x5_1, x4_2)
def F_X6_commonDivisor (a0 : Int32) (a1 : Int32) : Option (Int32) :=
  fixN (F_X6_commonDivisor_7B) FU (a0, a1, 0)

-- J7_fill_53178 25
def F_J7_fill_53178_25_5B (x1 : Int32) (x3 : Int32) (kb5 : Int32 × GM → Option (GM)) : Int32 × GM → Option (GM) := fun (x2, g) =>
  if x3 ≤ x2 then
    some g
  else
    ckB (inB x2 80) <|
    lt (si g 25 x2.toNatClampNeg x1) fun g_1 =>
    lt (x2 + 1) fun x2_2 =>
    kb5 (x2_2, g_1)
def F_J7_fill_53178_25 (a1 : Int32) (g : GM) : Option (GM) :=
  fixN (F_J7_fill_53178_25_5B a1 80) FU (0, g)

-- X2_clear p
def F_X2_clear_p (g : GM) : Option (GM) :=
  lt (si g 17 0 0) fun g_1 =>
  lt (si g_1 17 6 0) fun g_2 =>
  (F_J7_fill_53178_25 ((-1)) g_2).bind fun g_3 =>
  some g_3

-- X4_readWord 
def F_X4_readWord_148 (kb110 : Int32 × GM → Option (GM)) (x1 : Int32) (g : GM) : Option (GM) :=
  lt (x1 + 1) fun x1_1 =>
  kb110 (x1_1, g)
def F_X4_readWord_110B (kb110 : Int32 × GM → Option (GM)) : Int32 × GM → Option (GM) := fun (x1, g) =>
  if 11 ≤ x1 then
    some g
  else
    if (gi g 1 5) = 2 then
      ckB (inB x1 11) <|
      if (lg_cmp (gl g 3 x1.toNatClampNeg) (gl g 1 8)) = 0 then
        lt (si g 1 5 (4 + x1)) fun g_2 =>
        F_X4_readWord_148 kb110 x1 g_2
      else
        F_X4_readWord_148 kb110 x1 g
    else
      F_X4_readWord_148 kb110 x1 g
def F_X4_readWord_105 (s0 : Int32) (g : GM) : Option (GM) :=
  lt (si g 1 5 s0) fun g_3 =>
  fixN (F_X4_readWord_110B) FU (0, g_3)
def F_X4_readWord_85 (g : GM) : Option (GM) :=
  if ((gi g 1 4) - (gi g 1 6)) ≤ 8 then
    F_X4_readWord_105 2 g
  else
    F_X4_readWord_105 1 g
def F_X4_readWord_5B (kb5 : GM → Option (GM)) : GM → Option (GM) := fun g =>
  if (gi g 1 2) ≤ (gi g 1 4) then
    F_X4_readWord_85 g
  else
    ckB (inB (gi g 1 4) 1200) <|
    if (gi g 2 (gi g 1 4).toNatClampNeg) < 97 then
      F_X4_readWord_85 g
    else
      ckB (inB (gi g 1 4) 1200) <|
      if 122 < (gi g 2 (gi g 1 4).toNatClampNeg) then
        F_X4_readWord_85 g
      else
        ckB (inB (gi g 1 4) 1200) <|
        lt (sl g 1 8 (((gl g 1 8) * 32) + ((((gi g 2 (gi g 1 4).toNatClampNeg) - 97) + 1).toInt64))) fun g_4 =>
        lt (si g_4 1 4 ((gi g_4 1 4) + 1)) fun g_5 =>
        kb5 g_5
def F_X4_readWord (g : GM) : Option (GM) :=
  lt (sl g 1 8 0) fun g_6 =>
  fixN (F_X4_readWord_5B) FU g_6

-- X4_readNumber 
def F_X4_readNumber_150 (s0 : Int32) (g : GM) : Option (GM) :=
  lt (si g 1 5 s0) fun g_1 =>
  some g_1
def F_X4_readNumber_145 (g : GM) : Option (GM) :=
  F_X4_readNumber_150 1 g
def F_X4_readNumber_125 (s0 : Int32) (g : GM) : Option (GM) :=
  if 6 < ((gi g 1 4) - (gi g 1 6)) then
    F_X4_readNumber_145 g
  else
    if s0 = 0 then
      F_X4_readNumber_150 3 g
    else
      F_X4_readNumber_145 g
def F_X4_readNumber_124 (g : GM) : Option (GM) :=
  F_X4_readNumber_125 0 g
def F_X4_readNumber_81 (g : GM) : Option (GM) :=
  if (gi g 1 2) ≤ (gi g 1 4) then
    F_X4_readNumber_124 g
  else
    ckB (inB (gi g 1 4) 1200) <|
    if (gi g 2 (gi g 1 4).toNatClampNeg) < 97 then
      F_X4_readNumber_124 g
    else
      ckB (inB (gi g 1 4) 1200) <|
      if 122 < (gi g 2 (gi g 1 4).toNatClampNeg) then
        F_X4_readNumber_124 g
      else
        F_X4_readNumber_125 1 g
def F_X4_readNumber_5B (kb5 : GM → Option (GM)) : GM → Option (GM) := fun g =>
  if (gi g 1 2) ≤ (gi g 1 4) then
    F_X4_readNumber_81 g
  else
    ckB (inB (gi g 1 4) 1200) <|
    if (gi g 2 (gi g 1 4).toNatClampNeg) < 48 then
      F_X4_readNumber_81 g
    else
      ckB (inB (gi g 1 4) 1200) <|
      if 57 < (gi g 2 (gi g 1 4).toNatClampNeg) then
        F_X4_readNumber_81 g
      else
        ckB (inB (gi g 1 4) 1200) <|
        lt (si g 1 7 (((gi g 1 7) * 10) + ((gi g 2 (gi g 1 4).toNatClampNeg) - 48))) fun g_2 =>
        lt (si g_2 1 4 ((gi g_2 1 4) + 1)) fun g_3 =>
        kb5 g_3
def F_X4_readNumber (g : GM) : Option (GM) :=
  lt (si g 1 7 0) fun g_4 =>
  fixN (F_X4_readNumber_5B) FU g_4

-- X4_advance 
def F_X4_advance_158 (s0 : Int32) (g : GM) : Option (GM) :=
  lt (si g 1 5 s0) fun g_1 =>
  lt (si g_1 1 4 ((gi g_1 1 4) + 1)) fun g_2 =>
  some g_2
def F_X4_advance_140 (x1 : Int32) (g : GM) : Option (GM) :=
  (ixS (gi g 1 3) ((x1.toUInt32 % 65536).toInt32)).bind fun r_3 =>
  if r_3 < 0 then
    F_X4_advance_158 1 g
  else
    F_X4_advance_158 x1 g
def F_X4_advance_121 (x1 : Int32) (g : GM) : Option (GM) :=
  if x1 < 48 then
    F_X4_advance_140 x1 g
  else
    if 57 < x1 then
      F_X4_advance_140 x1 g
    else
      (F_X4_readNumber g).bind fun g_4 =>
      some g_4
def F_X4_advance_88 (s0 : Int32) (g : GM) : Option (GM) :=
  if s0 = ((-1)) then
    lt (si g 1 5 0) fun g_6 =>
    some g_6
  else
    if s0 < 97 then
      F_X4_advance_121 s0 g
    else
      if 122 < s0 then
        F_X4_advance_121 s0 g
      else
        (F_X4_readWord g).bind fun g_5 =>
        some g_5
def F_X4_advance_52 (g : GM) : Option (GM) :=
  lt (si g 1 6 (gi g 1 4)) fun g_7 =>
  if (gi g_7 1 2) ≤ (gi g_7 1 4) then
    F_X4_advance_88 ((-1)) g_7
  else
    ckB (inB (gi g_7 1 4) 1200) <|
    F_X4_advance_88 ((gi g_7 2 (gi g_7 1 4).toNatClampNeg) &&& 255) g_7
def F_X4_advance_39 (kb0 : GM → Option (GM)) (g : GM) : Option (GM) :=
  lt (si g 1 4 ((gi g 1 4) + 1)) fun g_8 =>
  kb0 g_8
def F_X4_advance_0B (kb0 : GM → Option (GM)) : GM → Option (GM) := fun g =>
  if (gi g 1 2) ≤ (gi g 1 4) then
    F_X4_advance_52 g
  else
    ckB (inB (gi g 1 4) 1200) <|
    if (gi g 2 (gi g 1 4).toNatClampNeg) = 32 then
      F_X4_advance_39 kb0 g
    else
      ckB (inB (gi g 1 4) 1200) <|
      if (gi g 2 (gi g 1 4).toNatClampNeg) = 10 then
        F_X4_advance_39 kb0 g
      else
        F_X4_advance_52 g
def F_X4_advance (g : GM) : Option (GM) :=
  fixN (F_X4_advance_0B) FU g

-- X4_open 
def F_X4_open_12 (s0 : Int32) (g : GM) : Option (GM) :=
  ckB (nzB s0) <|
  lt (si g 1 3 s0) fun g_1 =>
  lt (si g_1 1 9 0) fun g_2 =>
  lt (si g_2 1 10 ((-1))) fun g_3 =>
  lt (si g_3 1 4 0) fun g_4 =>
  (F_X4_advance g_4).bind fun g_5 =>
  some g_5
def F_X4_open (a1 : Int32) (g : GM) : Option (GM) :=
  if a1 = 0 then
    F_X4_open_12 1 g
  else
    F_X4_open_12 2 g

-- X2_tableNamed p
def F_X2_tableNamed_p_2B (x1 : Int64) (g : GM) (kb2 : Int32 → Option (Int32)) : Int32 → Option (Int32) := fun x3 =>
  if (gi g 17 0) ≤ x3 then
    some ((-1))
  else
    ckB (inB x3 5) <|
    if (lg_cmp (gl g 18 x3.toNatClampNeg) x1) = 0 then
      some x3
    else
      lt (x3 + 1) fun x3_1 =>
      kb2 x3_1
def F_X2_tableNamed_p (a1 : Int64) (g : GM) : Option (Int32) :=
  fixN (F_X2_tableNamed_p_2B a1 g) FU 0

-- X4_refuse 
def F_X4_refuse (a1 : Int32) (a2 : Int32) (g : GM) : Option (GM) :=
  if (gi g 1 9) = 0 then
    lt (si g 1 9 a1) fun g_1 =>
    lt (si g_1 1 10 a2) fun g_2 =>
    some g_2
  else
    some g

-- X4_refuseToken 
def F_X4_refuseToken_14 (s0 : Int32) (g : GM) : Option (GM) :=
  (F_X4_refuse s0 (gi g 1 6) g).bind fun g_1 =>
  some g_1
def F_X4_refuseToken (g : GM) : Option (GM) :=
  if (gi g 1 5) = 1 then
    F_X4_refuseToken_14 1 g
  else
    F_X4_refuseToken_14 2 g

-- X4_take 
def F_X4_take (a1 : Int32) (g : GM) : Option (Int32 × GM) :=
  if (gi g 1 9) = 0 then
    if (gi g 1 5) = a1 then
      (F_X4_advance g).bind fun g_1 =>
      some (1, g_1)
    else
      (F_X4_refuseToken g).bind fun g_2 =>
      some (0, g_2)
  else
    some (0, g)

-- X2_hasColumn p
def F_X2_hasColumn_p_30 (g : GM) : Option (Int32) :=
  some 0
def F_X2_hasColumn_p (a1 : Int32) (a2 : Int32) (g : GM) : Option (Int32) :=
  if a1 < 0 then
    F_X2_hasColumn_p_30 g
  else
    if (gi g 17 0) ≤ a1 then
      F_X2_hasColumn_p_30 g
    else
      if a2 < 0 then
        F_X2_hasColumn_p_30 g
      else
        ckB (inB a1 5) <|
        if (gi g 19 a1.toNatClampNeg) ≤ a2 then
          F_X2_hasColumn_p_30 g
        else
          some 1

-- X2_columnNamed p
def F_X2_columnNamed_p_3B (x1 : Int32) (x2 : Int64) (g : GM) (kb3 : Int32 → Option (Int32)) : Int32 → Option (Int32) := fun x4 =>
  if 5 ≤ x4 then
    some ((-1))
  else
    (F_X2_hasColumn_p x1 x4 g).bind fun r_1 =>
    if r_1 = 0 then
      some ((-1))
    else
      (F_X6_slot x1 x4).bind fun r_2 =>
      ckB (inB r_2 25) <|
      if (lg_cmp (gl g 21 r_2.toNatClampNeg) x2) = 0 then
        some x4
      else
        lt (x4 + 1) fun x4_3 =>
        kb3 x4_3
def F_X2_columnNamed_p (a1 : Int32) (a2 : Int64) (g : GM) : Option (Int32) :=
  fixN (F_X2_columnNamed_p_3B a1 a2 g) FU 0

-- X4_takeTable p
def F_X4_takeTable_p_35 (x2 : Int32) (g : GM) : Option (Int32 × GM) :=
  if (gi g 1 9) = 0 then
    (F_X4_advance g).bind fun g_1 =>
    some (x2, g_1)
  else
    some ((-1), g)
def F_X4_takeTable_p_12 (g : GM) : Option (Int32 × GM) :=
  (F_X2_tableNamed_p (gl g 1 8) g).bind fun r_2 =>
  lt r_2 fun x2_3 =>
  if x2_3 = ((-1)) then
    (F_X4_refuse 4 (gi g 1 6) g).bind fun g_4 =>
    F_X4_takeTable_p_35 x2_3 g_4
  else
    F_X4_takeTable_p_35 x2_3 g
def F_X4_takeTable_p (g : GM) : Option (Int32 × GM) :=
  if (gi g 1 5) = 2 then
    F_X4_takeTable_p_12 g
  else
    (F_X4_refuseToken g).bind fun g_5 =>
    F_X4_takeTable_p_12 g_5

-- X3_readColumn 
def F_X3_readColumn_26 (g : GM) : Option (GM) :=
  (F_X4_refuseToken g).bind fun g_1 =>
  some g_1
def F_X3_readColumn (a1 : Int32) (g : GM) : Option (GM) :=
  ckB (inB a1 5) <|
  lt (gi g 19 a1.toNatClampNeg) fun x2_2 =>
  if (gi g 1 5) = 2 then
    if x2_2 < 5 then
      (F_X2_columnNamed_p a1 (gl g 1 8) g).bind fun r_3 =>
      if r_3 = ((-1)) then
        (F_X6_slot a1 x2_2).bind fun r_4 =>
        ckB (inB r_4 25) <|
        lt (sl g 21 r_4.toNatClampNeg (gl g 1 8)) fun g_5 =>
        (F_X6_slot a1 x2_2).bind fun r_6 =>
        ckB (inB r_6 25) <|
        lt (si g_5 22 r_6.toNatClampNeg ((-1))) fun g_7 =>
        ckB (inB a1 5) <|
        ckB (inB a1 5) <|
        lt (si g_7 19 a1.toNatClampNeg ((gi g_7 19 a1.toNatClampNeg) + 1)) fun g_8 =>
        (F_X4_advance g_8).bind fun g_9 =>
        if (gi g_9 1 5) = 6 then
          (F_X4_advance g_9).bind fun g_10 =>
          (F_X6_slot a1 x2_2).bind fun r_11 =>
          (F_X4_takeTable_p g_10).bind fun (r_12, g_13) =>
          ckB (inB r_11 25) <|
          lt (si g_13 22 r_11.toNatClampNeg r_12) fun g_14 =>
          some g_14
        else
          some g_9
      else
        (F_X4_refuse 3 (gi g 1 6) g).bind fun g_15 =>
        some g_15
    else
      F_X3_readColumn_26 g
  else
    F_X3_readColumn_26 g

-- X3_readTable 
def F_X3_readTable_195 (g : GM) : Option (GM) :=
  (F_X4_take 59 g).bind fun (r_1, g_2) =>
  some g_2
def F_X3_readTable_189 (kb132 : Int32 × Int32 × GM → Option (GM)) (x1 : Int32) (x4 : Int32) (x5 : Int32) (g : GM) : Option (GM) :=
  lt (x5 + 1) fun x5_3 =>
  kb132 (x4, x5_3, g)
def F_X3_readTable_175 (kb132 : Int32 × Int32 × GM → Option (GM)) (x1 : Int32) (x5 : Int32) (s0 : Int32) (g : GM) : Option (GM) :=
  if s0 = 0 then
    F_X3_readTable_189 kb132 x1 s0 x5 g
  else
    (F_X4_advance g).bind fun g_4 =>
    F_X3_readTable_189 kb132 x1 s0 x5 g_4
def F_X3_readTable_174 (kb132 : Int32 × Int32 × GM → Option (GM)) (x1 : Int32) (x5 : Int32) (g : GM) : Option (GM) :=
  F_X3_readTable_175 kb132 x1 x5 0 g
def F_X3_readTable_132B (x1 : Int32) (kb132 : Int32 × Int32 × GM → Option (GM)) : Int32 × Int32 × GM → Option (GM) := fun (x4, x5, g) =>
  if 5 < x5 then
    F_X3_readTable_195 g
  else
    if x4 = 0 then
      F_X3_readTable_195 g
    else
      (F_X3_readColumn x1 g).bind fun g_5 =>
      if (gi g_5 1 9) = 0 then
        if (gi g_5 1 5) = 44 then
          F_X3_readTable_175 kb132 x1 x5 1 g_5
        else
          F_X3_readTable_174 kb132 x1 x5 g_5
      else
        F_X3_readTable_174 kb132 x1 x5 g_5
def F_X3_readTable_51 (x1 : Int32) (g : GM) : Option (GM) :=
  lt (gl g 1 8) fun x2_6 =>
  (F_X4_take 2 g).bind fun (r_7, g_8) =>
  if r_7 = 0 then
    some g_8
  else
    (F_X4_take 58 g_8).bind fun (r_9, g_10) =>
    if r_9 = 0 then
      some g_10
    else
      ckB (inB x1 5) <|
      lt (sl g_10 18 x1.toNatClampNeg x2_6) fun g_11 =>
      ckB (inB x1 5) <|
      lt (si g_11 19 x1.toNatClampNeg 0) fun g_12 =>
      ckB (inB x1 5) <|
      lt (si g_12 20 x1.toNatClampNeg 0) fun g_13 =>
      lt (si g_13 17 0 ((gi g_13 17 0) + 1)) fun g_14 =>
      fixN (F_X3_readTable_132B x1) FU (1, 0, g_14)
def F_X3_readTable (a1 : Int32) (g : GM) : Option (GM) :=
  (F_X4_advance g).bind fun g_15 =>
  if (gi g_15 1 5) = 2 then
    (F_X2_tableNamed_p (gl g_15 1 8) g_15).bind fun r_16 =>
    if r_16 = ((-1)) then
      F_X3_readTable_51 a1 g_15
    else
      (F_X4_refuse 3 (gi g_15 1 6) g_15).bind fun g_17 =>
      F_X3_readTable_51 a1 g_17
  else
    F_X3_readTable_51 a1 g_15

-- X2_hasTable p
def F_X2_hasTable_p_16 (g : GM) : Option (Int32) :=
  some 0
def F_X2_hasTable_p (a1 : Int32) (g : GM) : Option (Int32) :=
  if a1 < 0 then
    F_X2_hasTable_p_16 g
  else
    if (gi g 17 0) ≤ a1 then
      F_X2_hasTable_p_16 g
    else
      some 1

-- X2_target p
def F_X2_target_p (a1 : Int32) (a2 : Int32) (g : GM) : Option (Int32) :=
  (F_X2_hasColumn_p a1 a2 g).bind fun r_1 =>
  if r_1 = 0 then
    some ((-1))
  else
    (F_X6_slot a1 a2).bind fun r_2 =>
    ckB (inB r_2 25) <|
    some (gi g 22 r_2.toNatClampNeg)

-- X3_readValue 
def F_X3_readValue_76 (x1 : Int32) (x2 : Int32) (g : GM) : Option (GM) :=
  lt (gi g 1 7) fun x4_1 =>
  (F_X6_slot x1 x2).bind fun r_2 =>
  ckB (inB r_2 80) <|
  lt (si g 26 r_2.toNatClampNeg (gi g 1 6)) fun g_3 =>
  (F_X4_take 3 g_3).bind fun (r_4, g_5) =>
  if r_4 = 0 then
    some g_5
  else
    (F_X6_slot x1 x2).bind fun r_6 =>
    ckB (inB r_6 80) <|
    lt (si g_5 25 r_6.toNatClampNeg x4_1) fun g_7 =>
    some g_7
def F_X3_readValue (a1 : Int32) (a2 : Int32) (g : GM) : Option (GM) :=
  ckB (inB a1 16) <|
  lt (gi g 23 a1.toNatClampNeg) fun x3_8 =>
  (F_X2_hasColumn_p x3_8 a2 g).bind fun r_9 =>
  if r_9 = 0 then
    (F_X4_refuseToken g).bind fun g_14 =>
    some g_14
  else
    if (gi g 1 5) = 45 then
      (F_X4_advance g).bind fun g_13 =>
      some g_13
    else
      (F_X2_target_p x3_8 a2 g).bind fun r_10 =>
      if r_10 = ((-1)) then
        F_X3_readValue_76 a1 a2 g
      else
        (F_X4_take 35 g).bind fun (r_11, g_12) =>
        if r_11 = 0 then
          some g_12
        else
          F_X3_readValue_76 a1 a2 g_12

-- X3_readRow 
def F_X3_readRow_169 (x2 : Int32) (g : GM) : Option (GM) :=
  (F_X4_take 59 g).bind fun (r_1, g_2) =>
  if r_1 = 0 then
    some g_2
  else
    ckB (inB x2 5) <|
    ckB (inB x2 5) <|
    lt (si g_2 20 x2.toNatClampNeg ((gi g_2 20 x2.toNatClampNeg) + 1)) fun g_3 =>
    lt (si g_3 17 6 ((gi g_3 17 6) + 1)) fun g_4 =>
    some g_4
def F_X3_readRow_138 (x2 : Int32) (x4 : Int32) (g : GM) : Option (GM) :=
  if (gi g 1 9) = 0 then
    ckB (inB x2 5) <|
    if (gi g 19 x2.toNatClampNeg) ≤ x4 then
      F_X3_readRow_169 x2 g
    else
      (F_X4_refuseToken g).bind fun g_5 =>
      F_X3_readRow_169 x2 g_5
  else
    F_X3_readRow_169 x2 g
def F_X3_readRow_123 (kb76 : Int32 × Int32 × GM → Option (GM)) (x1 : Int32) (x2 : Int32) (x4 : Int32) (s0 : Int32) (g : GM) : Option (GM) :=
  if s0 = 0 then
    kb76 (s0, x4, g)
  else
    (F_X4_advance g).bind fun g_6 =>
    kb76 (s0, x4, g_6)
def F_X3_readRow_122 (kb76 : Int32 × Int32 × GM → Option (GM)) (x1 : Int32) (x2 : Int32) (x4 : Int32) (g : GM) : Option (GM) :=
  F_X3_readRow_123 kb76 x1 x2 x4 0 g
def F_X3_readRow_76B (x1 : Int32) (x2 : Int32) (kb76 : Int32 × Int32 × GM → Option (GM)) : Int32 × Int32 × GM → Option (GM) := fun (x3, x4, g) =>
  if x3 = 0 then
    F_X3_readRow_138 x2 x4 g
  else
    if 5 < x4 then
      F_X3_readRow_138 x2 x4 g
    else
      (F_X3_readValue x1 x4 g).bind fun g_7 =>
      lt (x4 + 1) fun x4_8 =>
      if (gi g_7 1 9) = 0 then
        if (gi g_7 1 5) = 44 then
          F_X3_readRow_123 kb76 x1 x2 x4_8 1 g_7
        else
          F_X3_readRow_122 kb76 x1 x2 x4_8 g_7
      else
        F_X3_readRow_122 kb76 x1 x2 x4_8 g_7
def F_X3_readRow (a1 : Int32) (g : GM) : Option (GM) :=
  (F_X4_advance g).bind fun g_9 =>
  (F_X4_takeTable_p g_9).bind fun (r_10, g_11) =>
  lt r_10 fun x2_12 =>
  (F_X4_take 58 g_11).bind fun (r_13, g_14) =>
  if r_13 = 0 then
    some g_14
  else
    (F_X2_hasTable_p x2_12 g_14).bind fun r_15 =>
    if r_15 = 0 then
      some g_14
    else
      ckB (inB a1 16) <|
      lt (si g_14 23 a1.toNatClampNeg x2_12) fun g_16 =>
      ckB (inB x2_12 5) <|
      ckB (inB a1 16) <|
      lt (si g_16 24 a1.toNatClampNeg (gi g_16 20 x2_12.toNatClampNeg)) fun g_17 =>
      fixN (F_X3_readRow_76B a1 x2_12) FU (1, 0, g_17)

-- X2_cell p
def F_X2_cell_p (a1 : Int32) (a2 : Int32) (g : GM) : Option (Int32) :=
  if a1 < 0 then
    some ((-1))
  else
    if (gi g 17 6) ≤ a1 then
      some ((-1))
    else
      if a2 < 0 then
        some ((-1))
      else
        if a2 < 5 then
          ckB (inB ((a1 * 5) + a2) 80) <|
          some (gi g 25 ((a1 * 5) + a2).toNatClampNeg)
        else
          some ((-1))

-- X2_rowOf p
def F_X2_rowOf_p_32 (kb2 : Int32 → Option (Int32)) (x1 : Int32) (x2 : Int32) (x3 : Int32) (g : GM) : Option (Int32) :=
  lt (x3 + 1) fun x3_1 =>
  kb2 x3_1
def F_X2_rowOf_p_2B (x1 : Int32) (x2 : Int32) (g : GM) (kb2 : Int32 → Option (Int32)) : Int32 → Option (Int32) := fun x3 =>
  if (gi g 17 6) ≤ x3 then
    some ((-1))
  else
    ckB (inB x3 16) <|
    if (gi g 23 x3.toNatClampNeg) = x1 then
      ckB (inB x3 16) <|
      if (gi g 24 x3.toNatClampNeg) = x2 then
        some x3
      else
        F_X2_rowOf_p_32 kb2 x1 x2 x3 g
    else
      F_X2_rowOf_p_32 kb2 x1 x2 x3 g
def F_X2_rowOf_p (a1 : Int32) (a2 : Int32) (g : GM) : Option (Int32) :=
  fixN (F_X2_rowOf_p_2B a1 a2 g) FU 0

-- X3_joinLink 
def F_X3_joinLink (a1 : Int32) (a2 : Int32) (a3 : Int32) (g : GM) : Option (GM) :=
  if a3 = ((-1)) then
    (F_X6_slot a1 a2).bind fun r_3 =>
    ckB (inB r_3 80) <|
    (F_X4_refuse 5 (gi g 26 r_3.toNatClampNeg) g).bind fun g_4 =>
    some g_4
  else
    (F_X6_slot a1 a2).bind fun r_1 =>
    ckB (inB r_1 80) <|
    lt (si g 25 r_1.toNatClampNeg a3) fun g_2 =>
    some g_2

-- X3_joinLinks 
def F_X3_joinLinks_81 (kb2 : Int32 × GM → Option (GM)) (kb25 : Int32 × GM → Option (GM)) (x1 : Int32) (x2 : Int32) (x3 : Int32) (g : GM) : Option (GM) :=
  lt (x3 + 1) fun x3_1 =>
  kb25 (x3_1, g)
def F_X3_joinLinks_25B (kb2 : Int32 × GM → Option (GM)) (x1 : Int32) (x2 : Int32) (kb25 : Int32 × GM → Option (GM)) : Int32 × GM → Option (GM) := fun (x3, g) =>
  if 5 ≤ x3 then
    lt (x1 + 1) fun x1_2 =>
    kb2 (x1_2, g)
  else
    (F_X2_target_p x2 x3 g).bind fun r_3 =>
    lt r_3 fun x4_4 =>
    (F_X2_cell_p x1 x3 g).bind fun r_5 =>
    lt r_5 fun x5_6 =>
    if x4_4 = ((-1)) then
      F_X3_joinLinks_81 kb2 kb25 x1 x2 x3 g
    else
      if x5_6 = ((-1)) then
        F_X3_joinLinks_81 kb2 kb25 x1 x2 x3 g
      else
        (F_X2_rowOf_p x4_4 x5_6 g).bind fun r_7 =>
        (F_X3_joinLink x1 x3 r_7 g).bind fun g_8 =>
        F_X3_joinLinks_81 kb2 kb25 x1 x2 x3 g_8
def F_X3_joinLinks_2B (kb2 : Int32 × GM → Option (GM)) : Int32 × GM → Option (GM) := fun (x1, g) =>
  if (gi g 17 6) ≤ x1 then
    some g
  else
    ckB (inB x1 16) <|
    lt (gi g 23 x1.toNatClampNeg) fun x2_9 =>
    fixN (F_X3_joinLinks_25B kb2 x1 x2_9) FU (0, g)
def F_X3_joinLinks (g : GM) : Option (GM) :=
  fixN (F_X3_joinLinks_2B) FU (0, g)

-- X2_hasRow p
def F_X2_hasRow_p_16 (g : GM) : Option (Int32) :=
  some 0
def F_X2_hasRow_p (a1 : Int32) (g : GM) : Option (Int32) :=
  if a1 < 0 then
    F_X2_hasRow_p_16 g
  else
    if (gi g 17 6) ≤ a1 then
      F_X2_hasRow_p_16 g
    else
      some 1

-- X2_findLinks p
def F_X2_findLinks_p_69 (kb2 : Int32 × GM → Option (GM)) (kb19 : Int32 × GM → Option (GM)) (x1 : Int32) (x2 : Int32) (g : GM) : Option (GM) :=
  lt (x2 + 1) fun x2_1 =>
  kb19 (x2_1, g)
def F_X2_findLinks_p_19B (kb2 : Int32 × GM → Option (GM)) (x1 : Int32) (kb19 : Int32 × GM → Option (GM)) : Int32 × GM → Option (GM) := fun (x2, g) =>
  if 5 ≤ x2 then
    lt (x1 + 1) fun x1_2 =>
    kb2 (x1_2, g)
  else
    ckB (inB x1 16) <|
    (F_X2_target_p (gi g 23 x1.toNatClampNeg) x2 g).bind fun r_3 =>
    if r_3 = ((-1)) then
      F_X2_findLinks_p_69 kb2 kb19 x1 x2 g
    else
      (F_X2_cell_p x1 x2 g).bind fun r_4 =>
      (F_X2_hasRow_p r_4 g).bind fun r_5 =>
      if r_5 = 0 then
        F_X2_findLinks_p_69 kb2 kb19 x1 x2 g
      else
        ckB (inB x1 16) <|
        (F_X2_cell_p x1 x2 g).bind fun r_6 =>
        ckB (inB x1 16) <|
        lt (si g 27 x1.toNatClampNeg ((gi g 27 x1.toNatClampNeg) ||| (1 <<< (r_6 &&& 31)))) fun g_7 =>
        F_X2_findLinks_p_69 kb2 kb19 x1 x2 g_7
def F_X2_findLinks_p_2B (kb2 : Int32 × GM → Option (GM)) : Int32 × GM → Option (GM) := fun (x1, g) =>
  if (gi g 17 6) ≤ x1 then
    some g
  else
    ckB (inB x1 16) <|
    lt (si g 27 x1.toNatClampNeg 0) fun g_8 =>
    fixN (F_X2_findLinks_p_19B kb2 x1) FU (0, g_8)
def F_X2_findLinks_p (g : GM) : Option (GM) :=
  fixN (F_X2_findLinks_p_2B) FU (0, g)

-- X3_readAll 
def F_X3_readAll_162 (g : GM) : Option (Int32 × GM) :=
  if (gi g 1 9) = 0 then
    some (1, g)
  else
    some (0, g)
def F_X3_readAll_145 (g : GM) : Option (Int32 × GM) :=
  if (gi g 1 9) = 0 then
    (F_X2_findLinks_p g).bind fun g_1 =>
    F_X3_readAll_162 g_1
  else
    F_X3_readAll_162 g
def F_X3_readAll_131 (g : GM) : Option (Int32 × GM) :=
  if (gi g 1 9) = 0 then
    (F_X3_joinLinks g).bind fun g_2 =>
    F_X3_readAll_145 g_2
  else
    F_X3_readAll_145 g
def F_X3_readAll_125 (kb20 : Int32 × GM → Option (Int32 × GM)) (x1 : Int32) (x2 : Int32) (g : GM) : Option (Int32 × GM) :=
  lt (x2 + 1) fun x2_3 =>
  kb20 (x2_3, g)
def F_X3_readAll_118 (kb20 : Int32 × GM → Option (Int32 × GM)) (x1 : Int32) (x2 : Int32) (g : GM) : Option (Int32 × GM) :=
  (F_X4_refuseToken g).bind fun g_4 =>
  F_X3_readAll_125 kb20 x1 x2 g_4
def F_X3_readAll_81 (kb20 : Int32 × GM → Option (Int32 × GM)) (x1 : Int32) (x2 : Int32) (g : GM) : Option (Int32 × GM) :=
  if (gi g 1 5) = 5 then
    if 16 ≤ (gi g 17 6) then
      F_X3_readAll_118 kb20 x1 x2 g
    else
      (F_X3_readRow (gi g 17 6) g).bind fun g_5 =>
      F_X3_readAll_125 kb20 x1 x2 g_5
  else
    F_X3_readAll_118 kb20 x1 x2 g
def F_X3_readAll_20B (x1 : Int32) (kb20 : Int32 × GM → Option (Int32 × GM)) : Int32 × GM → Option (Int32 × GM) := fun (x2, g) =>
  if x1 ≤ x2 then
    F_X3_readAll_131 g
  else
    if (gi g 1 9) = 0 then
      if (gi g 1 5) = 0 then
        F_X3_readAll_131 g
      else
        if (gi g 1 5) = 4 then
          if 5 ≤ (gi g 17 0) then
            F_X3_readAll_81 kb20 x1 x2 g
          else
            (F_X3_readTable (gi g 17 0) g).bind fun g_6 =>
            F_X3_readAll_125 kb20 x1 x2 g_6
        else
          F_X3_readAll_81 kb20 x1 x2 g
    else
      F_X3_readAll_131 g
def F_X3_readAll (g : GM) : Option (Int32 × GM) :=
  (F_X2_clear_p g).bind fun g_7 =>
  (F_X4_open 0 g_7).bind fun g_8 =>
  fixN (F_X3_readAll_20B 22) FU (0, g_8)

-- X1_binds d
def F_X1_binds_d_20 (g : GM) : Option (Int32) :=
  some 1
def F_X1_binds_d (a1 : Int32) (a2 : Int32) (g : GM) : Option (Int32) :=
  ckB (inB a1 160) <|
  if (gi g 32 a1.toNatClampNeg) = 0 then
    F_X1_binds_d_20 g
  else
    ckB (inB a1 160) <|
    if ((gi g 32 a1.toNatClampNeg) &&& a2) = 0 then
      some 0
    else
      F_X1_binds_d_20 g

-- X0_isPiece 
def F_X0_isPiece_111 (kb58 : Int32 → Option (Int32)) (x1 : Int32) (x2 : Int32) (g : GM) : Option (Int32) :=
  lt (x2 + 1) fun x2_1 =>
  kb58 x2_1
def F_X0_isPiece_58B (x1 : Int32) (g : GM) (kb58 : Int32 → Option (Int32)) : Int32 → Option (Int32) := fun x2 =>
  if (gi g 28 4) ≤ x2 then
    some 1
  else
    ckB (inB x2 160) <|
    (F_J6_bitCount_0f7a4 ((gi g 34 x2.toNatClampNeg) &&& x1)).bind fun r_2 =>
    lt r_2 fun x3_3 =>
    (F_X1_binds_d x2 x1 g).bind fun r_4 =>
    if r_4 = 0 then
      F_X0_isPiece_111 kb58 x1 x2 g
    else
      ckB (inB x2 160) <|
      if (gi g 33 x2.toNatClampNeg) ≤ x3_3 then
        F_X0_isPiece_111 kb58 x1 x2 g
      else
        some 0
def F_X0_isPiece_50 (kb13 : Int32 → Option (Int32)) (x1 : Int32) (x2 : Int32) (g : GM) : Option (Int32) :=
  lt (x2 + 1) fun x2_5 =>
  kb13 x2_5
def F_X0_isPiece_13B (x1 : Int32) (g : GM) (kb13 : Int32 → Option (Int32)) : Int32 → Option (Int32) := fun x2 =>
  if (gi g 6 6) ≤ x2 then
    fixN (F_X0_isPiece_58B x1 g) FU 0
  else
    (F_X6_has x1 x2).bind fun r_6 =>
    if r_6 = 0 then
      F_X0_isPiece_50 kb13 x1 x2 g
    else
      ckB (inB x2 16) <|
      if ((gi g 16 x2.toNatClampNeg) &&& (x1 ^^^ ((-1)))) = 0 then
        F_X0_isPiece_50 kb13 x1 x2 g
      else
        some 0
def F_X0_isPiece (a1 : Int32) (g : GM) : Option (Int32) :=
  if (a1 &&& (gi g 42 2)) = 0 then
    fixN (F_X0_isPiece_13B a1 g) FU 0
  else
    some 0

-- X0_withLastHelpers 
def F_X0_withLastHelpers_81 (kb5 : Int32 × Int32 → Option (Int32)) (x2 : Int32) (x3 : Int32) (x4 : Int32) (g : GM) : Option (Int32) :=
  lt (x4 + 1) fun x4_1 =>
  kb5 (x3, x4_1)
def F_X0_withLastHelpers_5B (x2 : Int32) (g : GM) (kb5 : Int32 × Int32 → Option (Int32)) : Int32 × Int32 → Option (Int32) := fun (x3, x4) =>
  if (gi g 28 4) ≤ x4 then
    some x3
  else
    ckB (inB x4 160) <|
    lt ((gi g 34 x4.toNatClampNeg) &&& (x2 ^^^ ((-1)))) fun x5_2 =>
    (F_J6_bitCount_0f7a4 x5_2).bind fun r_3 =>
    ckB (inB x4 160) <|
    lt (r_3 - (gi g 33 x4.toNatClampNeg)) fun x6_4 =>
    if 0 < x6_4 then
      F_X0_withLastHelpers_81 kb5 x2 x3 x4 g
    else
      (F_X1_binds_d x4 x3 g).bind fun r_5 =>
      if r_5 = 0 then
        F_X0_withLastHelpers_81 kb5 x2 x3 x4 g
      else
        if 0 ≤ x6_4 then
          lt (x3 ||| x5_2) fun x3_6 =>
          F_X0_withLastHelpers_81 kb5 x2 x3_6 x4 g
        else
          some ((-1))
def F_X0_withLastHelpers (a1 : Int32) (a2 : Int32) (g : GM) : Option (Int32) :=
  fixN (F_X0_withLastHelpers_5B a2 g) FU (a1, 0)

-- X0_settled 
def F_X0_settled_54 (kb5 : Int32 × Int32 → Option (Int32)) (kb18 : Int32 × Int32 → Option (Int32)) (x2 : Int32) (x4 : Int32) (x5 : Int32) (x6 : Int32) (s0 : Int32) (s1 : Int32) (g : GM) : Option (Int32) :=
  lt (s1 ||| s0) fun x3_1 =>
  lt (x6 + 1) fun x6_2 =>
  kb18 (x3_1, x6_2)
def F_X0_settled_18B (kb5 : Int32 × Int32 → Option (Int32)) (x2 : Int32) (x4 : Int32) (x5 : Int32) (g : GM) (kb18 : Int32 × Int32 → Option (Int32)) : Int32 × Int32 → Option (Int32) := fun (x3, x6) =>
  if (gi g 6 6) ≤ x6 then
    (F_X0_withLastHelpers x3 x2 g).bind fun r_3 =>
    lt r_3 fun x3_4 =>
    if x3_4 = ((-1)) then
      some ((-1))
    else
      if (x3_4 &&& x2) = 0 then
        if x3_4 = x5 then
          some x3_4
        else
          lt (x4 + 1) fun x4_5 =>
          kb5 (x3_4, x4_5)
      else
        some ((-1))
  else
    (F_X6_has x3 x6).bind fun r_6 =>
    if r_6 = 0 then
      F_X0_settled_54 kb5 kb18 x2 x4 x5 x6 0 x3 g
    else
      ckB (inB x6 16) <|
      F_X0_settled_54 kb5 kb18 x2 x4 x5 x6 (gi g 16 x6.toNatClampNeg) x3 g
def F_X0_settled_5B (x2 : Int32) (g : GM) (kb5 : Int32 × Int32 → Option (Int32)) : Int32 × Int32 → Option (Int32) := fun (x3, x4) =>
  if 16 < x4 then
    some ((-1))
  else
    fixN (F_X0_settled_18B kb5 x2 x4 x3 g) FU (x3, 0)
def F_X0_settled (a1 : Int32) (a2 : Int32) (g : GM) : Option (Int32) :=
  fixN (F_X0_settled_5B a2 g) FU (a1, 0)

-- X0_lacking 
def F_X0_lacking_117 (kb12 : Int32 × Int32 × Int32 × Int32 → Option (Int32)) (x1 : Int32) (x2 : Int32) (x3 : Int32) (x4 : Int32) (x5 : Int32) (x6 : Int32) (x7 : Int32) (g : GM) : Option (Int32) :=
  lt (x7 + 1) fun x7_1 =>
  kb12 (x4, x5, x6, x7_1)
def F_X0_lacking_12B (x1 : Int32) (x2 : Int32) (x3 : Int32) (g : GM) (kb12 : Int32 × Int32 × Int32 × Int32 → Option (Int32)) : Int32 × Int32 × Int32 × Int32 → Option (Int32) := fun (x4, x5, x6, x7) =>
  if (gi g 28 4) ≤ x7 then
    (F_J9_max_7cf53 x4 x5).bind fun r_2 =>
    some r_2
  else
    ckB (inB x7 160) <|
    lt ((gi g 34 x7.toNatClampNeg) &&& (x2 ^^^ ((-1)))) fun x8_3 =>
    ckB (inB x7 160) <|
    (F_J6_bitCount_0f7a4 (x8_3 &&& x3)).bind fun r_4 =>
    lt ((gi g 33 x7.toNatClampNeg) - r_4) fun x9_5 =>
    if x9_5 ≤ 0 then
      F_X0_lacking_117 kb12 x1 x2 x3 x4 x5 x6 x7 g
    else
      (F_X1_binds_d x7 x1 g).bind fun r_6 =>
      if r_6 = 0 then
        F_X0_lacking_117 kb12 x1 x2 x3 x4 x5 x6 x7 g
      else
        (F_J9_max_7cf53 x4 x9_5).bind fun r_7 =>
        lt r_7 fun x4_8 =>
        if ((x8_3 &&& (x3 ^^^ ((-1)))) &&& x6) = 0 then
          lt (x5 + x9_5) fun x5_9 =>
          lt (x6 ||| (x8_3 &&& (x3 ^^^ ((-1))))) fun x6_10 =>
          F_X0_lacking_117 kb12 x1 x2 x3 x4_8 x5_9 x6_10 x7 g
        else
          F_X0_lacking_117 kb12 x1 x2 x3 x4_8 x5 x6 x7 g
def F_X0_lacking (a1 : Int32) (a2 : Int32) (a3 : Int32) (g : GM) : Option (Int32) :=
  fixN (F_X0_lacking_12B a1 a2 a3 g) FU (0, 0, 0, 0)

-- X0_isWithinLimits 
def F_X0_isWithinLimits_66 (g : GM) : Option (Int32) :=
  some 0
def F_X0_isWithinLimits (a1 : Int32) (a2 : Int32) (g : GM) : Option (Int32) :=
  (F_J6_bitCount_0f7a4 (a1 &&& ((gi g 42 3) ^^^ ((-1))))).bind fun r_1 =>
  (F_J6_bitCount_0f7a4 ((gi g 42 3) &&& a2)).bind fun r_2 =>
  lt (r_1 + r_2) fun x3_3 =>
  (F_J6_bitCount_0f7a4 a1).bind fun r_4 =>
  (F_X0_lacking a1 a2 a1 g).bind fun r_5 =>
  if (gi g 42 5) < (r_4 + r_5) then
    F_X0_isWithinLimits_66 g
  else
    (F_X0_lacking a1 a2 (a1 ||| (gi g 42 3)) g).bind fun r_6 =>
    if (gi g 42 4) < (x3_3 + r_6) then
      F_X0_isWithinLimits_66 g
    else
      some 1

-- X5_readNeed 
def F_X5_readNeed_46 (x1 : Int32) (g : GM) : Option (Int32 × GM) :=
  (F_X4_take 3 g).bind fun (r_1, g_2) =>
  if r_1 = 0 then
    some (0, g_2)
  else
    some (x1, g_2)
def F_X5_readNeed_30 (x1 : Int32) (g : GM) : Option (Int32 × GM) :=
  (F_X4_refuse 6 (gi g 1 6) g).bind fun g_3 =>
  F_X5_readNeed_46 x1 g_3
def F_X5_readNeed (g : GM) : Option (Int32 × GM) :=
  lt (gi g 1 7) fun x1_4 =>
  if (gi g 1 5) = 3 then
    if x1_4 < 1 then
      F_X5_readNeed_30 x1_4 g
    else
      if x1_4 ≤ 16 then
        F_X5_readNeed_46 x1_4 g
      else
        F_X5_readNeed_30 x1_4 g
  else
    F_X5_readNeed_46 x1_4 g

-- X2_columnNamed s
def F_X2_columnNamed_s_3B (x1 : Int32) (x2 : Int64) (g : GM) (kb3 : Int32 → Option (Int32)) : Int32 → Option (Int32) := fun x4 =>
  if 5 ≤ x4 then
    some ((-1))
  else
    (F_X2_hasColumn_s x1 x4 g).bind fun r_1 =>
    if r_1 = 0 then
      some ((-1))
    else
      (F_X6_slot x1 x4).bind fun r_2 =>
      ckB (inB r_2 25) <|
      if (lg_cmp (gl g 10 r_2.toNatClampNeg) x2) = 0 then
        some x4
      else
        lt (x4 + 1) fun x4_3 =>
        kb3 x4_3
def F_X2_columnNamed_s (a1 : Int32) (a2 : Int64) (g : GM) : Option (Int32) :=
  fixN (F_X2_columnNamed_s_3B a1 a2 g) FU 0

-- X2_target s
def F_X2_target_s (a1 : Int32) (a2 : Int32) (g : GM) : Option (Int32) :=
  (F_X2_hasColumn_s a1 a2 g).bind fun r_1 =>
  if r_1 = 0 then
    some ((-1))
  else
    (F_X6_slot a1 a2).bind fun r_2 =>
    ckB (inB r_2 25) <|
    some (gi g 11 r_2.toNatClampNeg)

-- X5_readPath 
def F_X5_readPath_186 (g : GM) : Option (GM) :=
  (F_X4_refuseToken g).bind fun g_1 =>
  some g_1
def F_X5_readPath_170 (kb36 : Int32 × GM → Option (GM)) (x1 : Int32) (g : GM) : Option (GM) :=
  if x1 = ((-1)) then
    some g
  else
    (F_X4_advance g).bind fun g_2 =>
    kb36 (x1, g_2)
def F_X5_readPath_161 (kb36 : Int32 × GM → Option (GM)) (x1 : Int32) (x2 : Int32) (g : GM) : Option (GM) :=
  (F_X4_refuse 4 x2 g).bind fun g_3 =>
  F_X5_readPath_170 kb36 x1 g_3
def F_X5_readPath_158 (kb36 : Int32 × GM → Option (GM)) (x1 : Int32) (x2 : Int32) (s0 : Int32) (s1 : Int32) (g : GM) : Option (GM) :=
  if s1 = s0 then
    F_X5_readPath_170 kb36 x1 g
  else
    F_X5_readPath_161 kb36 x1 x2 g
def F_X5_readPath_141 (kb36 : Int32 × GM → Option (GM)) (x1 : Int32) (x2 : Int32) (s0 : Int32) (g : GM) : Option (GM) :=
  if (gi g 1 5) = 46 then
    F_X5_readPath_158 kb36 x1 x2 1 s0 g
  else
    F_X5_readPath_158 kb36 x1 x2 0 s0 g
def F_X5_readPath_36B (kb36 : Int32 × GM → Option (GM)) : Int32 × GM → Option (GM) := fun (x1, g) =>
  if (gi g 1 9) = 0 then
    if 4 ≤ (gi g 42 4) then
      F_X5_readPath_186 g
    else
      if (gi g 1 5) = 2 then
        lt (gi g 1 6) fun x2_4 =>
        (F_X2_columnNamed_s x1 (gl g 1 8) g).bind fun r_5 =>
        lt r_5 fun x3_6 =>
        ckB (inB (gi g 42 4) 4) <|
        lt (si g 43 ((gi g 42 4).toNatClampNeg) x3_6) fun g_7 =>
        lt (si g_7 42 4 ((gi g_7 42 4) + 1)) fun g_8 =>
        (F_X2_target_s x1 x3_6 g_8).bind fun r_9 =>
        lt r_9 fun x1_10 =>
        (F_X4_advance g_8).bind fun g_11 =>
        if x3_6 = ((-1)) then
          F_X5_readPath_161 kb36 x1_10 x2_4 g_11
        else
          if x1_10 = ((-1)) then
            F_X5_readPath_141 kb36 x1_10 x2_4 0 g_11
          else
            F_X5_readPath_141 kb36 x1_10 x2_4 1 g_11
      else
        F_X5_readPath_186 g
  else
    F_X5_readPath_186 g
def F_X5_readPath_16 (g : GM) : Option (GM) :=
  lt (si g 42 5 ((gi g 42 5) + 1)) fun g_12 =>
  lt (si g_12 42 4 0) fun g_13 =>
  lt (gi g_13 42 6) fun x1_14 =>
  fixN (F_X5_readPath_36B) FU (x1_14, g_13)
def F_X5_readPath (g : GM) : Option (GM) :=
  if (gi g 42 5) < 40 then
    F_X5_readPath_16 g
  else
    (F_X4_refuseToken g).bind fun g_15 =>
    F_X5_readPath_16 g_15

-- X5_valueAlong 
def F_X5_valueAlong_4B (g : GM) (kb4 : Int32 × Int32 → Option (Int32)) : Int32 × Int32 → Option (Int32) := fun (x2, x3) =>
  if (gi g 42 4) ≤ x3 then
    some x2
  else
    if 4 ≤ x3 then
      some x2
    else
      ckB (inB x3 4) <|
      (F_X2_cell_s x2 (gi g 43 x3.toNatClampNeg) g).bind fun r_1 =>
      lt r_1 fun x2_2 =>
      lt (x3 + 1) fun x3_3 =>
      kb4 (x2_2, x3_3)
def F_X5_valueAlong (a1 : Int32) (g : GM) : Option (Int32) :=
  fixN (F_X5_valueAlong_4B g) FU (a1, 0)

-- X5_compares 
def F_X5_compares_25 : Option (Int32) :=
  some 0
def F_X5_compares_10 (x0 : Int32) (x1 : Int32) (x2 : Int32) : Option (Int32) :=
  if x1 = 61 then
    if x0 = x2 then
      some 1
    else
      F_X5_compares_25
  else
    F_X5_compares_25
def F_X5_compares (a0 : Int32) (a1 : Int32) (a2 : Int32) : Option (Int32) :=
  if a0 = ((-1)) then
    F_X5_compares_10 a0 a1 a2
  else
    if a2 = ((-1)) then
      F_X5_compares_10 a0 a1 a2
    else
      if a1 = 61 then
        if a0 = a2 then
          some 1
        else
          some 0
      else
        if a1 = 60 then
          if a2 ≤ a0 then
            some 0
          else
            some 1
        else
          if a0 ≤ a2 then
            some 0
          else
            some 1

-- X5_readComparison 
def F_X5_readComparison_169 (kb119 : Int32 × Int32 → Option (Int32 × GM)) (x1 : Int32) (x2 : Int32) (x3 : Int32) (x4 : Int32) (g : GM) : Option (Int32 × GM) :=
  lt (x4 + 1) fun x4_1 =>
  kb119 (x3, x4_1)
def F_X5_readComparison_119B (x1 : Int32) (x2 : Int32) (g : GM) (kb119 : Int32 × Int32 → Option (Int32 × GM)) : Int32 × Int32 → Option (Int32 × GM) := fun (x3, x4) =>
  if (gi g 6 6) ≤ x4 then
    some (x3, g)
  else
    ckB (inB x4 16) <|
    if (gi g 12 x4.toNatClampNeg) = (gi g 42 6) then
      (F_X5_valueAlong x4 g).bind fun r_2 =>
      (F_X5_compares r_2 x1 x2).bind fun r_3 =>
      if r_3 = 0 then
        F_X5_readComparison_169 kb119 x1 x2 x3 x4 g
      else
        lt (x3 ||| (1 <<< (x4 &&& 31))) fun x3_4 =>
        F_X5_readComparison_169 kb119 x1 x2 x3_4 x4 g
    else
      F_X5_readComparison_169 kb119 x1 x2 x3 x4 g
def F_X5_readComparison_107 (x1 : Int32) (x2 : Int32) (g : GM) : Option (Int32 × GM) :=
  (F_X4_advance g).bind fun g_5 =>
  fixN (F_X5_readComparison_119B x1 x2 g_5) FU (0, 0)
def F_X5_readComparison_74 (x1 : Int32) (s0 : Int32) (g : GM) : Option (Int32 × GM) :=
  if (gi g 1 5) = 3 then
    F_X5_readComparison_107 x1 s0 g
  else
    if (gi g 1 5) = 45 then
      F_X5_readComparison_107 x1 s0 g
    else
      (F_X4_refuseToken g).bind fun g_6 =>
      some (0, g_6)
def F_X5_readComparison_33 (x1 : Int32) (g : GM) : Option (Int32 × GM) :=
  if (gi g 1 9) = 0 then
    (F_X4_advance g).bind fun g_7 =>
    if (gi g_7 1 5) = 3 then
      F_X5_readComparison_74 x1 (gi g_7 1 7) g_7
    else
      F_X5_readComparison_74 x1 ((-1)) g_7
  else
    some (0, g)
def F_X5_readComparison (g : GM) : Option (Int32 × GM) :=
  lt (gi g 1 5) fun x1_8 =>
  if x1_8 = 60 then
    F_X5_readComparison_33 x1_8 g
  else
    if x1_8 = 62 then
      F_X5_readComparison_33 x1_8 g
    else
      if x1_8 = 61 then
        F_X5_readComparison_33 x1_8 g
      else
        (F_X4_refuseToken g).bind fun g_9 =>
        F_X5_readComparison_33 x1_8 g_9

-- X2_tableNamed s
def F_X2_tableNamed_s_2B (x1 : Int64) (g : GM) (kb2 : Int32 → Option (Int32)) : Int32 → Option (Int32) := fun x3 =>
  if (gi g 6 0) ≤ x3 then
    some ((-1))
  else
    ckB (inB x3 5) <|
    if (lg_cmp (gl g 7 x3.toNatClampNeg) x1) = 0 then
      some x3
    else
      lt (x3 + 1) fun x3_1 =>
      kb2 x3_1
def F_X2_tableNamed_s (a1 : Int64) (g : GM) : Option (Int32) :=
  fixN (F_X2_tableNamed_s_2B a1 g) FU 0

-- X4_takeTable s
def F_X4_takeTable_s_35 (x2 : Int32) (g : GM) : Option (Int32 × GM) :=
  if (gi g 1 9) = 0 then
    (F_X4_advance g).bind fun g_1 =>
    some (x2, g_1)
  else
    some ((-1), g)
def F_X4_takeTable_s_12 (g : GM) : Option (Int32 × GM) :=
  (F_X2_tableNamed_s (gl g 1 8) g).bind fun r_2 =>
  lt r_2 fun x2_3 =>
  if x2_3 = ((-1)) then
    (F_X4_refuse 4 (gi g 1 6) g).bind fun g_4 =>
    F_X4_takeTable_s_35 x2_3 g_4
  else
    F_X4_takeTable_s_35 x2_3 g
def F_X4_takeTable_s (g : GM) : Option (Int32 × GM) :=
  if (gi g 1 5) = 2 then
    F_X4_takeTable_s_12 g
  else
    (F_X4_refuseToken g).bind fun g_5 =>
    F_X4_takeTable_s_12 g_5

-- X1_addDemand e
def F_X1_addDemand_e (a1 : Int32) (a2 : Int32) (a3 : Int32) (g : GM) : Option (GM) :=
  if 10 ≤ (gi g 35 0) then
    some g
  else
    ckB (inB (gi g 35 0) 10) <|
    ckB (isZ a1) <|
    lt (si g 36 ((gi g 35 0).toNatClampNeg) a1) fun g_1 =>
    ckB (inB (gi g_1 35 0) 10) <|
    lt (si g_1 37 ((gi g_1 35 0).toNatClampNeg) a2) fun g_2 =>
    ckB (inB (gi g_2 35 0) 10) <|
    lt (si g_2 38 ((gi g_2 35 0).toNatClampNeg) a3) fun g_3 =>
    lt (si g_3 35 0 ((gi g_3 35 0) + 1)) fun g_4 =>
    some g_4

-- X2_linkersOf s
def F_X2_linkersOf_s_46 (kb6 : Int32 × Int32 → Option (Int32)) (x1 : Int32) (x2 : Int32) (x3 : Int32) (x4 : Int32) (x5 : Int32) (g : GM) : Option (Int32) :=
  lt (x5 + 1) fun x5_1 =>
  kb6 (x4, x5_1)
def F_X2_linkersOf_s_6B (x1 : Int32) (x2 : Int32) (x3 : Int32) (g : GM) (kb6 : Int32 × Int32 → Option (Int32)) : Int32 × Int32 → Option (Int32) := fun (x4, x5) =>
  if (gi g 6 6) ≤ x5 then
    some x4
  else
    ckB (inB x5 16) <|
    if (gi g 12 x5.toNatClampNeg) = x2 then
      (F_X2_cell_s x5 x3 g).bind fun r_2 =>
      if r_2 = x1 then
        lt (x4 ||| (1 <<< (x5 &&& 31))) fun x4_3 =>
        F_X2_linkersOf_s_46 kb6 x1 x2 x3 x4_3 x5 g
      else
        F_X2_linkersOf_s_46 kb6 x1 x2 x3 x4 x5 g
    else
      F_X2_linkersOf_s_46 kb6 x1 x2 x3 x4 x5 g
def F_X2_linkersOf_s (a1 : Int32) (a2 : Int32) (a3 : Int32) (g : GM) : Option (Int32) :=
  fixN (F_X2_linkersOf_s_6B a1 a2 a3 g) FU (0, 0)

-- X1_addBond e
def F_X1_addBond_e (a1 : Int32) (a2 : Int32) (a3 : Int32) (g : GM) : Option (GM) :=
  if 160 ≤ (gi g 35 4) then
    some g
  else
    ckB (inB (gi g 35 4) 160) <|
    lt (si g 39 ((gi g 35 4).toNatClampNeg) a1) fun g_1 =>
    ckB (inB (gi g_1 35 4) 160) <|
    lt (si g_1 40 ((gi g_1 35 4).toNatClampNeg) a2) fun g_2 =>
    ckB (inB (gi g_2 35 4) 160) <|
    lt (si g_2 41 ((gi g_2 35 4).toNatClampNeg) a3) fun g_3 =>
    lt (si g_3 35 4 ((gi g_3 35 4) + 1)) fun g_4 =>
    some g_4

-- X1_addLaw es
def F_X1_addLaw_es_49 (kb10 : Int32 × GM → Option (GM)) (x2 : Int32) (x3 : Int32) (x4 : Int32) (x5 : Int32) (x6 : Int32) (g : GM) : Option (GM) :=
  lt (x6 + 1) fun x6_1 =>
  kb10 (x6_1, g)
def F_X1_addLaw_es_10B (x2 : Int32) (x3 : Int32) (x4 : Int32) (x5 : Int32) (kb10 : Int32 × GM → Option (GM)) : Int32 × GM → Option (GM) := fun (x6, g) =>
  if (gi g 6 6) ≤ x6 then
    some g
  else
    ckB (inB x6 16) <|
    if (gi g 12 x6.toNatClampNeg) = x2 then
      (F_X2_linkersOf_s x6 x4 x5 g).bind fun r_2 =>
      (F_X1_addBond_e (1 <<< (x6 &&& 31)) x3 r_2 g).bind fun g_3 =>
      F_X1_addLaw_es_49 kb10 x2 x3 x4 x5 x6 g_3
    else
      F_X1_addLaw_es_49 kb10 x2 x3 x4 x5 x6 g
def F_X1_addLaw_es (a2 : Int32) (a3 : Int32) (a4 : Int32) (a5 : Int32) (g : GM) : Option (GM) :=
  (F_X1_addDemand_e 1 a2 0 g).bind fun g_4 =>
  fixN (F_X1_addLaw_es_10B a2 a3 a4 a5) FU (0, g_4)

-- X5_readLaw 
def F_X5_readLaw_119 (x1 : Int32) (x2 : Int32) (x3 : Int32) (x4 : Int32) (g : GM) : Option (GM) :=
  (F_X4_take 2 g).bind fun (r_1, g_2) =>
  if r_1 = 0 then
    some g_2
  else
    (F_X4_take 59 g_2).bind fun (r_3, g_4) =>
    if r_3 = 0 then
      some g_4
    else
      (F_X1_addLaw_es x1 x2 x3 x4 g_4).bind fun g_5 =>
      some g_5
def F_X5_readLaw_104 (x1 : Int32) (x2 : Int32) (x3 : Int32) (x4 : Int32) (g : GM) : Option (GM) :=
  (F_X4_refuse 4 (gi g 1 6) g).bind fun g_6 =>
  F_X5_readLaw_119 x1 x2 x3 x4 g_6
def F_X5_readLaw (g : GM) : Option (GM) :=
  (F_X4_advance g).bind fun g_7 =>
  (F_X4_takeTable_s g_7).bind fun (r_8, g_9) =>
  lt r_8 fun x1_10 =>
  (F_X4_take 10 g_9).bind fun (r_11, g_12) =>
  (F_X5_readNeed g_12).bind fun (r_13, g_14) =>
  lt r_13 fun x2_15 =>
  (F_X4_takeTable_s g_14).bind fun (r_16, g_17) =>
  lt r_16 fun x3_18 =>
  (F_X4_take 11 g_17).bind fun (r_19, g_20) =>
  (F_X2_columnNamed_s x3_18 (gl g_20 1 8) g_20).bind fun r_21 =>
  lt r_21 fun x4_22 =>
  if (gi g_20 1 5) = 2 then
    if x4_22 = ((-1)) then
      F_X5_readLaw_104 x1_10 x2_15 x3_18 x4_22 g_20
    else
      (F_X2_target_s x3_18 x4_22 g_20).bind fun r_23 =>
      if r_23 = x1_10 then
        F_X5_readLaw_119 x1_10 x2_15 x3_18 x4_22 g_20
      else
        F_X5_readLaw_104 x1_10 x2_15 x3_18 x4_22 g_20
  else
    F_X5_readLaw_119 x1_10 x2_15 x3_18 x4_22 g_20

-- X2_firstFree s
def F_X2_firstFree_s_37 (kb2 : Int32 → Option (Int32)) (x1 : Int32) (x2 : Int32) (g : GM) : Option (Int32) :=
  lt (x2 + 1) fun x2_1 =>
  kb2 x2_1
def F_X2_firstFree_s_2B (x1 : Int32) (g : GM) (kb2 : Int32 → Option (Int32)) : Int32 → Option (Int32) := fun x2 =>
  if (gi g 6 6) ≤ x2 then
    some ((-1))
  else
    (F_X6_has x1 x2).bind fun r_2 =>
    if r_2 = 0 then
      F_X2_firstFree_s_37 kb2 x1 x2 g
    else
      ckB (inB x2 16) <|
      if (((gi g 16 x2.toNatClampNeg) &&& x1) &&& ((1 <<< (x2 &&& 31)) ^^^ ((-1)))) = 0 then
        some x2
      else
        F_X2_firstFree_s_37 kb2 x1 x2 g
def F_X2_firstFree_s (a1 : Int32) (g : GM) : Option (Int32) :=
  fixN (F_X2_firstFree_s_2B a1 g) FU 0

-- X2_lineUp s5
def F_X2_lineUp_s5_5B (kb5 : Int32 × Int32 × GM → Option (Int32 × GM)) : Int32 × Int32 × GM → Option (Int32 × GM) := fun (x3, x4, g) =>
  if 16 ≤ x4 then
    some (16, g)
  else
    (F_X2_firstFree_s x3 g).bind fun r_1 =>
    lt r_1 fun x5_2 =>
    if x5_2 = ((-1)) then
      some (x4, g)
    else
      ckB (inB x4 16) <|
      lt (si g 5 x4.toNatClampNeg x5_2) fun g_3 =>
      lt (x3 &&& ((1 <<< (x5_2 &&& 31)) ^^^ ((-1)))) fun x3_4 =>
      lt (x4 + 1) fun x4_5 =>
      kb5 (x3_4, x4_5, g_3)
def F_X2_lineUp_s5 (a1 : Int32) (g : GM) : Option (Int32 × GM) :=
  fixN (F_X2_lineUp_s5_5B) FU (a1, 0, g)

-- X2_total s
def F_X2_total_s_51 (kb6 : Int32 × Int32 → Option (Int32)) (x1 : Int32) (x2 : Int32) (x3 : Int32) (x4 : Int32) (x5 : Int32) (g : GM) : Option (Int32) :=
  lt (x5 + 1) fun x5_1 =>
  kb6 (x4, x5_1)
def F_X2_total_s_6B (x1 : Int32) (x2 : Int32) (x3 : Int32) (g : GM) (kb6 : Int32 × Int32 → Option (Int32)) : Int32 × Int32 → Option (Int32) := fun (x4, x5) =>
  if (gi g 6 6) ≤ x5 then
    some x4
  else
    ckB (inB x5 16) <|
    if (gi g 12 x5.toNatClampNeg) = x1 then
      (F_X6_has x3 x5).bind fun r_2 =>
      if r_2 = 0 then
        F_X2_total_s_51 kb6 x1 x2 x3 x4 x5 g
      else
        (F_X2_cell_s x5 x2 g).bind fun r_3 =>
        (F_J9_max_7cf53 0 r_3).bind fun r_4 =>
        lt (x4 + r_4) fun x4_5 =>
        F_X2_total_s_51 kb6 x1 x2 x3 x4_5 x5 g
    else
      F_X2_total_s_51 kb6 x1 x2 x3 x4 x5 g
def F_X2_total_s (a1 : Int32) (a2 : Int32) (a3 : Int32) (g : GM) : Option (Int32) :=
  fixN (F_X2_total_s_6B a1 a2 a3 g) FU (0, 0)

-- X2_allRows s
def F_X2_allRows_s (g : GM) : Option (Int32) :=
  some ((1 <<< ((gi g 6 6) &&& 31)) - 1)

-- X2_rowsOf s
def F_X2_rowsOf_s_28 (kb4 : Int32 × Int32 → Option (Int32)) (x1 : Int32) (x2 : Int32) (x3 : Int32) (g : GM) : Option (Int32) :=
  lt (x3 + 1) fun x3_1 =>
  kb4 (x2, x3_1)
def F_X2_rowsOf_s_4B (x1 : Int32) (g : GM) (kb4 : Int32 × Int32 → Option (Int32)) : Int32 × Int32 → Option (Int32) := fun (x2, x3) =>
  if (gi g 6 6) ≤ x3 then
    some x2
  else
    ckB (inB x3 16) <|
    if (gi g 12 x3.toNatClampNeg) = x1 then
      lt (x2 ||| (1 <<< (x3 &&& 31))) fun x2_2 =>
      F_X2_rowsOf_s_28 kb4 x1 x2_2 x3 g
    else
      F_X2_rowsOf_s_28 kb4 x1 x2 x3 g
def F_X2_rowsOf_s (a1 : Int32) (g : GM) : Option (Int32) :=
  fixN (F_X2_rowsOf_s_4B a1 g) FU (0, 0)

-- X1_clear d
def F_X1_clear_d (g : GM) : Option (GM) :=
  lt (si g 28 0 0) fun g_1 =>
  lt (si g_1 28 4 0) fun g_2 =>
  some g_2

-- X1_clear e
def F_X1_clear_e (g : GM) : Option (GM) :=
  lt (si g 35 0 0) fun g_1 =>
  lt (si g_1 35 4 0) fun g_2 =>
  some g_2

-- X1_wishesMetBy d
def F_X1_wishesMetBy_d_41 (kb2 : Int32 → Option (Int32)) (x1 : Int32) (x2 : Int32) (g : GM) : Option (Int32) :=
  lt (x2 + 1) fun x2_1 =>
  kb2 x2_1
def F_X1_wishesMetBy_d_2B (x1 : Int32) (g : GM) (kb2 : Int32 → Option (Int32)) : Int32 → Option (Int32) := fun x2 =>
  if (gi g 28 4) ≤ x2 then
    some 1
  else
    ckB (inB x2 160) <|
    if (gi g 32 x2.toNatClampNeg) = 0 then
      ckB (inB x2 160) <|
      (F_J6_bitCount_0f7a4 ((gi g 34 x2.toNatClampNeg) &&& x1)).bind fun r_2 =>
      ckB (inB x2 160) <|
      if (gi g 33 x2.toNatClampNeg) ≤ r_2 then
        F_X1_wishesMetBy_d_41 kb2 x1 x2 g
      else
        some 0
    else
      F_X1_wishesMetBy_d_41 kb2 x1 x2 g
def F_X1_wishesMetBy_d (a1 : Int32) (g : GM) : Option (Int32) :=
  fixN (F_X1_wishesMetBy_d_2B a1 g) FU 0

-- X1_addWish e
def F_X1_addWish_e (a1 : Int32) (a2 : Int32) (a3 : Int32) (g : GM) : Option (GM) :=
  (F_X1_addDemand_e 0 a1 a3 g).bind fun g_1 =>
  (F_X1_addBond_e 0 a2 a3 g_1).bind fun g_2 =>
  some g_2

-- J7_fill_53178 4
def F_J7_fill_53178_4_5B (x1 : Int32) (x3 : Int32) (kb5 : Int32 × GM → Option (GM)) : Int32 × GM → Option (GM) := fun (x2, g) =>
  if x3 ≤ x2 then
    some g
  else
    ckB (inB x2 25) <|
    lt (si g 4 x2.toNatClampNeg x1) fun g_1 =>
    lt (x2 + 1) fun x2_2 =>
    kb5 (x2_2, g_1)
def F_J7_fill_53178_4 (a1 : Int32) (g : GM) : Option (GM) :=
  fixN (F_J7_fill_53178_4_5B a1 25) FU (0, g)

