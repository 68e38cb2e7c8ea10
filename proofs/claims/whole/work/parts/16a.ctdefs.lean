theorem kz2 : Cond.initialized RX4 ∈ lw_ok := ok_t1 (i := 2) ⟨rfl, rfl⟩
theorem kz7 : Cond.initialized RX2 ∈ lw_ok := ok_t1 (i := 7) ⟨rfl, rfl⟩
theorem kz8 : Cond.initialized RX1 ∈ lw_ok := ok_t1 (i := 8) ⟨rfl, rfl⟩
theorem kz11 : Cond.initialized RX3 ∈ lw_ok := ok_t1 (i := 11) ⟨rfl, rfl⟩
theorem kz14 : Cond.initialized RX5 ∈ lw_ok := ok_t1 (i := 14) ⟨rfl, rfl⟩
theorem kz16 : Cond.initialized RX0 ∈ lw_ok := ok_t1 (i := 16) ⟨rfl, rfl⟩
theorem kz22 : Cond.methodLink RX6 1 objectInit ∈ lw_ok := ok_t1 (i := 22) ⟨rfl, rfl⟩
theorem kz25 : Cond.classLink RX6 7 RX4 ∈ lw_ok := ok_t1 (i := 25) ⟨rfl, rfl⟩
theorem kz26 : Cond.instantiable RX4 11 ∈ lw_ok := ok_t1 (i := 26) ⟨rfl, rfl⟩
theorem kz30 : Cond.methodLink RX4 3 objectInit ∈ lw_ok := ok_t1 (i := 30) ⟨rfl, rfl⟩
theorem kz129 : Cond.arrayClass .byte ∈ lw_ok := ok_t1 (i := 129) ⟨rfl, rfl⟩
theorem kz130 : Cond.arrayClass .long ∈ lw_ok := ok_t1 (i := 130) ⟨rfl, rfl⟩
theorem kz131 : Cond.classLink RX6 23 RX2 ∈ lw_ok := ok_t1 (i := 131) ⟨rfl, rfl⟩
theorem kz132 : Cond.instantiable RX2 12 ∈ lw_ok := ok_t1 (i := 132) ⟨rfl, rfl⟩
theorem kz136 : Cond.methodLink RX2 3 objectInit ∈ lw_ok := ok_t1 (i := 136) ⟨rfl, rfl⟩
theorem kz197 : Cond.arrayClass .int ∈ lw_ok := ok_t1 (i := 197) ⟨rfl, rfl⟩
theorem kz198 : Cond.classLink RX6 33 RX1 ∈ lw_ok := ok_t1 (i := 198) ⟨rfl, rfl⟩
theorem kz199 : Cond.instantiable RX1 8 ∈ lw_ok := ok_t1 (i := 199) ⟨rfl, rfl⟩
theorem kz203 : Cond.methodLink RX1 3 objectInit ∈ lw_ok := ok_t1 (i := 203) ⟨rfl, rfl⟩
theorem kz235 : Cond.arrayClass .boolean ∈ lw_ok := ok_t1 (i := 235) ⟨rfl, rfl⟩
theorem kz298 : Cond.classLink RX6 57 RX3 ∈ lw_ok := ok_t2 (i := 58) ⟨rfl, rfl⟩
theorem kz299 : Cond.instantiable RX3 2 ∈ lw_ok := ok_t2 (i := 59) ⟨rfl, rfl⟩
theorem kz303 : Cond.methodLink RX3 3 objectInit ∈ lw_ok := ok_t2 (i := 63) ⟨rfl, rfl⟩
theorem kz495 : Cond.classLink RX6 81 RX5 ∈ lw_ok := ok_t3 (i := 15) ⟨rfl, rfl⟩
theorem kz496 : Cond.instantiable RX5 7 ∈ lw_ok := ok_t3 (i := 16) ⟨rfl, rfl⟩
theorem kz500 : Cond.methodLink RX5 3 objectInit ∈ lw_ok := ok_t3 (i := 20) ⟨rfl, rfl⟩
theorem kz645 : Cond.classLink RX6 133 RX0 ∈ lw_ok := ok_t3 (i := 165) ⟨rfl, rfl⟩
theorem kz646 : Cond.instantiable RX0 6 ∈ lw_ok := ok_t3 (i := 166) ⟨rfl, rfl⟩
theorem kz650 : Cond.methodLink RX0 3 objectInit ∈ lw_ok := ok_t3 (i := 170) ⟨rfl, rfl⟩
theorem kz1034 : Cond.methodLink RX7 349 objectInit ∈ lw_ok := ok_t5 (i := 74) ⟨rfl, rfl⟩
def hr_X0_init (hr : Nat → Nat → Value) (a : Nat → Nat) : Nat → Nat → Value := ur (ur (hr) 42 0 (.ref (a 6))) 42 1 (.ref (a 28))
def F_X0_init (a3 : Int32) (a4 : Int32) (g : GM) : Option GM :=
  lt (si g 42 2 a3) fun g_1 =>
  lt (si g_1 42 3 (a4 &&& (a3 ^^^ ((-1))))) fun g_2 =>
  some g_2

def hr_X3_init (hr : Nat → Nat → Value) (a : Nat → Nat) : Nat → Nat → Value := ur (ur (hr) 42 0 (.ref (a 1))) 42 1 (.ref (a 17))
def F_X3_init (g : GM) : Option GM :=
  some g

def hr_X5_init (hr : Nat → Nat → Value) (a : Nat → Nat) : Nat → Nat → Value := ur (un (ur (ur (ur (hr) 42 0 (.ref (a 1))) 42 1 (.ref (a 6))) 42 2 (.ref (a 35))) 43) 42 3 (.ref (a 43))
def F_X5_init (g : GM) : Option GM :=
  lt (zi g 43) fun g_1 =>
  some g_1

def hr_X2_init_6 (hr : Nat → Nat → Value) (a : Nat → Nat) : Nat → Nat → Value := ur (un (ur (un (ur (un (ur (un (ur (un (ur (un (ur (un (ur (un (ur (un (ur (un (hr) 7) 6 1 (.ref (a 7))) 8) 6 2 (.ref (a 8))) 9) 6 3 (.ref (a 9))) 10) 6 4 (.ref (a 10))) 11) 6 5 (.ref (a 11))) 12) 6 7 (.ref (a 12))) 13) 6 8 (.ref (a 13))) 14) 6 9 (.ref (a 14))) 15) 6 10 (.ref (a 15))) 16) 6 11 (.ref (a 16))
def F_X2_init_6 (g : GM) : Option GM :=
  lt (zi g 7) fun g_1 =>
  lt (zi g_1 8) fun g_2 =>
  lt (zi g_2 9) fun g_3 =>
  lt (zi g_3 10) fun g_4 =>
  lt (zi g_4 11) fun g_5 =>
  lt (zi g_5 12) fun g_6 =>
  lt (zi g_6 13) fun g_7 =>
  lt (zi g_7 14) fun g_8 =>
  lt (zi g_8 15) fun g_9 =>
  lt (zi g_9 16) fun g_10 =>
  some g_10

def hr_X2_init_17 (hr : Nat → Nat → Value) (a : Nat → Nat) : Nat → Nat → Value := ur (un (ur (un (ur (un (ur (un (ur (un (ur (un (ur (un (ur (un (ur (un (ur (un (hr) 18) 17 1 (.ref (a 18))) 19) 17 2 (.ref (a 19))) 20) 17 3 (.ref (a 20))) 21) 17 4 (.ref (a 21))) 22) 17 5 (.ref (a 22))) 23) 17 7 (.ref (a 23))) 24) 17 8 (.ref (a 24))) 25) 17 9 (.ref (a 25))) 26) 17 10 (.ref (a 26))) 27) 17 11 (.ref (a 27))
def F_X2_init_17 (g : GM) : Option GM :=
  lt (zi g 18) fun g_1 =>
  lt (zi g_1 19) fun g_2 =>
  lt (zi g_2 20) fun g_3 =>
  lt (zi g_3 21) fun g_4 =>
  lt (zi g_4 22) fun g_5 =>
  lt (zi g_5 23) fun g_6 =>
  lt (zi g_6 24) fun g_7 =>
  lt (zi g_7 25) fun g_8 =>
  lt (zi g_8 26) fun g_9 =>
  lt (zi g_9 27) fun g_10 =>
  some g_10

def hr_X1_init_28 (hr : Nat → Nat → Value) (a : Nat → Nat) : Nat → Nat → Value := ur (un (ur (un (ur (un (ur (un (ur (un (ur (un (hr) 29) 28 1 (.ref (a 29))) 30) 28 2 (.ref (a 30))) 31) 28 3 (.ref (a 31))) 32) 28 5 (.ref (a 32))) 33) 28 6 (.ref (a 33))) 34) 28 7 (.ref (a 34))
def F_X1_init_28 (g : GM) : Option GM :=
  lt (zi g 29) fun g_1 =>
  lt (zi g_1 30) fun g_2 =>
  lt (zi g_2 31) fun g_3 =>
  lt (zi g_3 32) fun g_4 =>
  lt (zi g_4 33) fun g_5 =>
  lt (zi g_5 34) fun g_6 =>
  some g_6

def hr_X1_init_35 (hr : Nat → Nat → Value) (a : Nat → Nat) : Nat → Nat → Value := ur (un (ur (un (ur (un (ur (un (ur (un (ur (un (hr) 36) 35 1 (.ref (a 36))) 37) 35 2 (.ref (a 37))) 38) 35 3 (.ref (a 38))) 39) 35 5 (.ref (a 39))) 40) 35 6 (.ref (a 40))) 41) 35 7 (.ref (a 41))
def F_X1_init_35 (g : GM) : Option GM :=
  lt (zi g 36) fun g_1 =>
  lt (zi g_1 37) fun g_2 =>
  lt (zi g_2 38) fun g_3 =>
  lt (zi g_3 39) fun g_4 =>
  lt (zi g_4 40) fun g_5 =>
  lt (zi g_5 41) fun g_6 =>
  some g_6

def F_X4_init_94 (kb36 : Int32 × Int32 × GM → Option (GM)) (x1 : Int32) (x2 : Int32) (g : GM) : Option (GM) :=
  lt (x2 + 1) fun x2_1 =>
  kb36 (x1, x2_1, g)
def F_X4_init_36B (kb36 : Int32 × Int32 × GM → Option (GM)) : Int32 × Int32 × GM → Option (GM) := fun (x1, x2, g) =>
  (F_J0_length_8abf5 1).bind fun r_2 =>
  if r_2 ≤ x2 then
    some g
  else
    if 11 ≤ x1 then
      some g
    else
      (F_J0_charAt_5068e 1 x2).bind fun r_3 =>
      lt r_3 fun x3_4 =>
      if x3_4 = 32 then
        lt (x1 + 1) fun x1_6 =>
        F_X4_init_94 kb36 x1_6 x2 g
      else
        ckB (inB x1 11) <|
        ckB (inB x1 11) <|
        lt (sl g 3 x1.toNatClampNeg (((gl g 3 x1.toNatClampNeg) * 32) + (((x3_4 - 97) + 1).toInt64))) fun g_5 =>
        F_X4_init_94 kb36 x1 x2 g_5

def hr_X4_init_1 (hr : Nat → Nat → Value) (a : Nat → Nat) : Nat → Nat → Value := ur (un (ur (un (hr) 2) 1 0 (.ref (a 2))) 3) 1 1 (.ref (a 3))
def F_X4_init_1 (g : GM) : Option GM :=
  lt (zi g 2) fun g_1 =>
  lt (zi g_1 3) fun g_2 =>
  lt (si g_2 1 3 1) fun g_3 =>
  lt (si g_3 1 10 ((-1))) fun g_4 =>
  fixN (F_X4_init_36B) FU (0, 0, g_4)

