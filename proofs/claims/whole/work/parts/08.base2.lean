def ckB {α : Type} (b : Bool) (k : Option α) : Option α := if b = true then k else none
theorem ck_some {α : Type} {b : Bool} {k : Option α} {r : α} (h : ckB b k = some r) : b = true ∧ k = some r := by
  cases b with
  | true => exact ⟨rfl, h⟩
  | false => cases h
theorem ck_true {α : Type} {b : Bool} {k : Option α} (h : b = true) : ckB b k = k := by rw [h]; rfl
def lt {α β : Type} (a : α) (f : α → Option β) : Option β := f a
theorem lt_gen {α β : Type} {a : α} {f : α → Option β} {r : β} {P : α → Prop} {G : Prop} (h : lt a f = some r) (hp : P a) (k : ∀ x, f x = some r → P x → G) : G := k a h hp
def isZ (x : Int32) : Bool := decide (x = 0) || decide (x = 1)
theorem isZ_or {x : Int32} (h : isZ x = true) : x = 0 ∨ x = 1 := by simpa [isZ] using h
def nzB (x : Int32) : Bool := !(decide (x = 0))
theorem nz_of {x : Int32} (h : nzB x = true) : ¬ x = 0 := by simpa [nzB] using h
def fixN {σ ρ : Type} (B : (σ → Option ρ) → σ → Option ρ) : Nat → σ → Option ρ
  | 0 => fun _ => none
  | n + 1 => B (fixN B n)
theorem fix_zero {σ ρ : Type} {B : (σ → Option ρ) → σ → Option ρ} {x : σ} {r : ρ} (h : fixN B 0 x = some r) : False := by cases h
def FU : Nat := 70000
def KM : List (Nat × Nat) := [(7, 55), (10, 1220), (10, 1200), (9, 10), (9, 50), (8, 10), (8, 10), (8, 50), (8, 32), (8, 32), (8, 160), (8, 160), (8, 2), (8, 2), (8, 2), (8, 20), (8, 20), (8, 20), (8, 20), (8, 20), (8, 20), (8, 1200), (8, 1200), (8, 80), (8, 80), (8, 320), (8, 60), (11, 50), (8, 16), (8, 10), (8, 160), (8, 16), (8, 25)]
def HRM (ad : Nat → Nat) (k : Nat) : Value := match k with
  | 0 => .ref (ad 1)
  | 1 => .ref (ad 2)
  | 12 => .ref (ad 3)
  | 13 => .ref (ad 4)
  | 14 => .ref (ad 5)
  | 15 => .ref (ad 6)
  | 16 => .ref (ad 7)
  | 17 => .ref (ad 8)
  | 18 => .ref (ad 9)
  | 19 => .ref (ad 10)
  | 20 => .ref (ad 11)
  | 21 => .ref (ad 12)
  | 22 => .ref (ad 13)
  | 25 => .ref (ad 14)
  | 26 => .ref (ad 15)
  | 27 => .ref (ad 16)
  | 28 => .ref (ad 17)
  | 29 => .ref (ad 18)
  | 30 => .ref (ad 19)
  | 31 => .ref (ad 20)
  | 32 => .ref (ad 21)
  | 33 => .ref (ad 22)
  | 34 => .ref (ad 23)
  | 35 => .ref (ad 24)
  | 36 => .ref (ad 25)
  | 42 => .ref (ad 26)
  | 45 => .ref (ad 27)
  | 46 => .ref (ad 28)
  | 47 => .ref (ad 29)
  | 48 => .ref (ad 30)
  | 53 => .ref (ad 31)
  | 54 => .ref (ad 32)
  | _ => .null
def HM (hr : Nat → Nat → Value) (ad : Nat → Nat) : Prop := ∀ k, hr 0 k = HRM ad k
theorem km0 : KM[0]? = some (7, NN 7) := rfl
theorem km1 : KM[1]? = some (10, 1220) := rfl
theorem km2 : KM[2]? = some (10, 1200) := rfl
theorem km3 : KM[3]? = some (9, 10) := rfl
theorem km4 : KM[4]? = some (9, 50) := rfl
theorem km5 : KM[5]? = some (8, 10) := rfl
theorem km6 : KM[6]? = some (8, 10) := rfl
theorem km7 : KM[7]? = some (8, 50) := rfl
theorem km8 : KM[8]? = some (8, 32) := rfl
theorem km9 : KM[9]? = some (8, 32) := rfl
theorem km10 : KM[10]? = some (8, 160) := rfl
theorem km11 : KM[11]? = some (8, 160) := rfl
theorem km12 : KM[12]? = some (8, 2) := rfl
theorem km13 : KM[13]? = some (8, 2) := rfl
theorem km14 : KM[14]? = some (8, 2) := rfl
theorem km15 : KM[15]? = some (8, 20) := rfl
theorem km16 : KM[16]? = some (8, 20) := rfl
theorem km17 : KM[17]? = some (8, 20) := rfl
theorem km18 : KM[18]? = some (8, 20) := rfl
theorem km19 : KM[19]? = some (8, 20) := rfl
theorem km20 : KM[20]? = some (8, 20) := rfl
theorem km21 : KM[21]? = some (8, 1200) := rfl
theorem km22 : KM[22]? = some (8, 1200) := rfl
theorem km23 : KM[23]? = some (8, 80) := rfl
theorem km24 : KM[24]? = some (8, 80) := rfl
theorem km25 : KM[25]? = some (8, 320) := rfl
theorem km26 : KM[26]? = some (8, 60) := rfl
theorem km27 : KM[27]? = some (11, 50) := rfl
theorem km28 : KM[28]? = some (8, 16) := rfl
theorem km29 : KM[29]? = some (8, 10) := rfl
theorem km30 : KM[30]? = some (8, 160) := rfl
theorem km31 : KM[31]? = some (8, 16) := rfl
theorem km32 : KM[32]? = some (8, 25) := rfl
theorem pnX0 : plainName RX0 = true := by decide +kernel
theorem pnX1 : plainName RX1 = true := by decide +kernel
theorem pnX2 : plainName RX2 = true := by decide +kernel
theorem pnX3 : plainName RX3 = true := by decide +kernel
theorem pnX4 : plainName RX4 = true := by decide +kernel
theorem pnX5 : plainName RX5 = true := by decide +kernel
theorem pnX6 : plainName RX6 = true := by decide +kernel
theorem pnX7 : plainName RX7 = true := by decide +kernel
theorem kc810 : Cond.constantLong RX7 17 (499850046565) ∈ lw_ok := ok_t4 (i := 90) ⟨rfl, rfl⟩
theorem kc811 : Cond.constantLong RX7 19 (7499639) ∈ lw_ok := ok_t4 (i := 91) ⟨rfl, rfl⟩
theorem kc812 : Cond.constantLong RX7 21 (29807) ∈ lw_ok := ok_t4 (i := 92) ⟨rfl, rfl⟩
theorem kc813 : Cond.constantLong RX7 23 (2003399528) ∈ lw_ok := ok_t4 (i := 93) ⟨rfl, rfl⟩
theorem kc814 : Cond.constantLong RX7 25 (7102839) ∈ lw_ok := ok_t4 (i := 94) ⟨rfl, rfl⟩
theorem kc815 : Cond.constantLong RX7 27 (512852587109) ∈ lw_ok := ok_t4 (i := 95) ⟨rfl, rfl⟩
theorem kc816 : Cond.constantLong RX7 29 (474147546227) ∈ lw_ok := ok_t4 (i := 96) ⟨rfl, rfl⟩
theorem kc817 : Cond.constantLong RX7 31 (25209) ∈ lw_ok := ok_t4 (i := 97) ⟨rfl, rfl⟩
theorem kc818 : Cond.constantLong RX7 33 (7237492) ∈ lw_ok := ok_t4 (i := 98) ⟨rfl, rfl⟩
theorem kc819 : Cond.constantLong RX7 35 (6385252) ∈ lw_ok := ok_t4 (i := 99) ⟨rfl, rfl⟩
theorem kc820 : Cond.constantLong RX7 37 (28530) ∈ lw_ok := ok_t4 (i := 100) ⟨rfl, rfl⟩
theorem kc1214 : Cond.constantLong RX7 360 (1048576) ∈ lw_ok := ok_t6 (i := 14) ⟨rfl, rfl⟩
