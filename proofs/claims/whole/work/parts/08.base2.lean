def ckB {α : Type} (b : Bool) (k : Option α) : Option α := if b = true then k else none
theorem ck_some {α : Type} {b : Bool} {k : Option α} {r : α} (h : ckB b k = some r) : b = true ∧ k = some r := by
  cases b with
  | true => exact ⟨rfl, h⟩
  | false => cases h
theorem ck_true {α : Type} {b : Bool} {k : Option α} (h : b = true) : ckB b k = k := by rw [h]; rfl
def lt {α β : Type} (a : α) (f : α → Option β) : Option β := f a
theorem lt_gen {α β : Type} {a : α} {f : α → Option β} {r : β} {P : α → Prop} {G : Prop} (h : lt a f = some r) (hp : P a) (k : ∀ x, f x = some r → P x → G) : G := k a h hp
def isZ (x : Int32) : Bool := decide (x = 0) || decide (x = 1)
theorem isZ_or {x : Int32} (h : isZ x = true) : x = 0 ∨ x = 1 := by simpa [isZ] using h
def nzB (x : Int32) : Bool := !(decide (x = 0))
theorem nz_of {x : Int32} (h : nzB x = true) : ¬ x = 0 := by simpa [nzB] using h
def fixN {σ ρ : Type} (B : (σ → Option ρ) → σ → Option ρ) : Nat → σ → Option ρ
  | 0 => fun _ => none
  | n + 1 => B (fixN B n)
theorem fix_zero {σ ρ : Type} {B : (σ → Option ρ) → σ → Option ρ} {x : σ} {r : ρ} (h : fixN B 0 x = some r) : False := by cases h
def FU : Nat := 70000
def KM : List (Nat × Nat) := [(7, 55), (10, 1220), (10, 1200), (9, 10), (9, 50), (8, 10), (8, 10), (8, 50), (8, 32), (8, 32), (8, 160), (8, 160), (8, 2), (8, 2), (8, 2), (8, 20), (8, 20), (8, 20), (8, 20), (8, 20), (8, 20), (8, 1200), (8, 1200), (8, 80), (8, 80), (8, 320), (8, 60), (11, 50), (8, 16), (8, 10), (8, 160), (8, 16), (8, 25)]
def HLM : List (Nat × Nat) := [(0, 1), (1, 2), (12, 3), (13, 4), (14, 5), (15, 6), (16, 7), (17, 8), (18, 9), (19, 10), (20, 11), (21, 12), (22, 13), (25, 14), (26, 15), (27, 16), (28, 17), (29, 18), (30, 19), (31, 20), (32, 21), (33, 22), (34, 23), (35, 24), (36, 25), (42, 26), (45, 27), (46, 28), (47, 29), (48, 30), (53, 31), (54, 32)]
def HM (hr : Nat → Nat → Value) (ad : Nat → Nat) : Prop := ∀ q ∈ HLM, hr 0 q.1 = .ref (ad q.2)
theorem hm0 {hr : Nat → Nat → Value} {ad : Nat → Nat} (hx : HM hr ad) : hr 0 0 = .ref (ad 1) := hx (0, 1) (List.mem_of_getElem? (i := 0) rfl)
theorem hm1 {hr : Nat → Nat → Value} {ad : Nat → Nat} (hx : HM hr ad) : hr 0 1 = .ref (ad 2) := hx (1, 2) (List.mem_of_getElem? (i := 1) rfl)
theorem hm12 {hr : Nat → Nat → Value} {ad : Nat → Nat} (hx : HM hr ad) : hr 0 12 = .ref (ad 3) := hx (12, 3) (List.mem_of_getElem? (i := 2) rfl)
theorem hm13 {hr : Nat → Nat → Value} {ad : Nat → Nat} (hx : HM hr ad) : hr 0 13 = .ref (ad 4) := hx (13, 4) (List.mem_of_getElem? (i := 3) rfl)
theorem hm14 {hr : Nat → Nat → Value} {ad : Nat → Nat} (hx : HM hr ad) : hr 0 14 = .ref (ad 5) := hx (14, 5) (List.mem_of_getElem? (i := 4) rfl)
theorem hm15 {hr : Nat → Nat → Value} {ad : Nat → Nat} (hx : HM hr ad) : hr 0 15 = .ref (ad 6) := hx (15, 6) (List.mem_of_getElem? (i := 5) rfl)
theorem hm16 {hr : Nat → Nat → Value} {ad : Nat → Nat} (hx : HM hr ad) : hr 0 16 = .ref (ad 7) := hx (16, 7) (List.mem_of_getElem? (i := 6) rfl)
theorem hm17 {hr : Nat → Nat → Value} {ad : Nat → Nat} (hx : HM hr ad) : hr 0 17 = .ref (ad 8) := hx (17, 8) (List.mem_of_getElem? (i := 7) rfl)
theorem hm18 {hr : Nat → Nat → Value} {ad : Nat → Nat} (hx : HM hr ad) : hr 0 18 = .ref (ad 9) := hx (18, 9) (List.mem_of_getElem? (i := 8) rfl)
theorem hm19 {hr : Nat → Nat → Value} {ad : Nat → Nat} (hx : HM hr ad) : hr 0 19 = .ref (ad 10) := hx (19, 10) (List.mem_of_getElem? (i := 9) rfl)
theorem hm20 {hr : Nat → Nat → Value} {ad : Nat → Nat} (hx : HM hr ad) : hr 0 20 = .ref (ad 11) := hx (20, 11) (List.mem_of_getElem? (i := 10) rfl)
theorem hm21 {hr : Nat → Nat → Value} {ad : Nat → Nat} (hx : HM hr ad) : hr 0 21 = .ref (ad 12) := hx (21, 12) (List.mem_of_getElem? (i := 11) rfl)
theorem hm22 {hr : Nat → Nat → Value} {ad : Nat → Nat} (hx : HM hr ad) : hr 0 22 = .ref (ad 13) := hx (22, 13) (List.mem_of_getElem? (i := 12) rfl)
theorem hm25 {hr : Nat → Nat → Value} {ad : Nat → Nat} (hx : HM hr ad) : hr 0 25 = .ref (ad 14) := hx (25, 14) (List.mem_of_getElem? (i := 13) rfl)
theorem hm26 {hr : Nat → Nat → Value} {ad : Nat → Nat} (hx : HM hr ad) : hr 0 26 = .ref (ad 15) := hx (26, 15) (List.mem_of_getElem? (i := 14) rfl)
theorem hm27 {hr : Nat → Nat → Value} {ad : Nat → Nat} (hx : HM hr ad) : hr 0 27 = .ref (ad 16) := hx (27, 16) (List.mem_of_getElem? (i := 15) rfl)
theorem hm28 {hr : Nat → Nat → Value} {ad : Nat → Nat} (hx : HM hr ad) : hr 0 28 = .ref (ad 17) := hx (28, 17) (List.mem_of_getElem? (i := 16) rfl)
theorem hm29 {hr : Nat → Nat → Value} {ad : Nat → Nat} (hx : HM hr ad) : hr 0 29 = .ref (ad 18) := hx (29, 18) (List.mem_of_getElem? (i := 17) rfl)
theorem hm30 {hr : Nat → Nat → Value} {ad : Nat → Nat} (hx : HM hr ad) : hr 0 30 = .ref (ad 19) := hx (30, 19) (List.mem_of_getElem? (i := 18) rfl)
theorem hm31 {hr : Nat → Nat → Value} {ad : Nat → Nat} (hx : HM hr ad) : hr 0 31 = .ref (ad 20) := hx (31, 20) (List.mem_of_getElem? (i := 19) rfl)
theorem hm32 {hr : Nat → Nat → Value} {ad : Nat → Nat} (hx : HM hr ad) : hr 0 32 = .ref (ad 21) := hx (32, 21) (List.mem_of_getElem? (i := 20) rfl)
theorem hm33 {hr : Nat → Nat → Value} {ad : Nat → Nat} (hx : HM hr ad) : hr 0 33 = .ref (ad 22) := hx (33, 22) (List.mem_of_getElem? (i := 21) rfl)
theorem hm34 {hr : Nat → Nat → Value} {ad : Nat → Nat} (hx : HM hr ad) : hr 0 34 = .ref (ad 23) := hx (34, 23) (List.mem_of_getElem? (i := 22) rfl)
theorem hm35 {hr : Nat → Nat → Value} {ad : Nat → Nat} (hx : HM hr ad) : hr 0 35 = .ref (ad 24) := hx (35, 24) (List.mem_of_getElem? (i := 23) rfl)
theorem hm36 {hr : Nat → Nat → Value} {ad : Nat → Nat} (hx : HM hr ad) : hr 0 36 = .ref (ad 25) := hx (36, 25) (List.mem_of_getElem? (i := 24) rfl)
theorem hm42 {hr : Nat → Nat → Value} {ad : Nat → Nat} (hx : HM hr ad) : hr 0 42 = .ref (ad 26) := hx (42, 26) (List.mem_of_getElem? (i := 25) rfl)
theorem hm45 {hr : Nat → Nat → Value} {ad : Nat → Nat} (hx : HM hr ad) : hr 0 45 = .ref (ad 27) := hx (45, 27) (List.mem_of_getElem? (i := 26) rfl)
theorem hm46 {hr : Nat → Nat → Value} {ad : Nat → Nat} (hx : HM hr ad) : hr 0 46 = .ref (ad 28) := hx (46, 28) (List.mem_of_getElem? (i := 27) rfl)
theorem hm47 {hr : Nat → Nat → Value} {ad : Nat → Nat} (hx : HM hr ad) : hr 0 47 = .ref (ad 29) := hx (47, 29) (List.mem_of_getElem? (i := 28) rfl)
theorem hm48 {hr : Nat → Nat → Value} {ad : Nat → Nat} (hx : HM hr ad) : hr 0 48 = .ref (ad 30) := hx (48, 30) (List.mem_of_getElem? (i := 29) rfl)
theorem hm53 {hr : Nat → Nat → Value} {ad : Nat → Nat} (hx : HM hr ad) : hr 0 53 = .ref (ad 31) := hx (53, 31) (List.mem_of_getElem? (i := 30) rfl)
theorem hm54 {hr : Nat → Nat → Value} {ad : Nat → Nat} (hx : HM hr ad) : hr 0 54 = .ref (ad 32) := hx (54, 32) (List.mem_of_getElem? (i := 31) rfl)
theorem km0 : KM[0]? = some (7, NN 7) := rfl
theorem km1 : KM[1]? = some (10, 1220) := rfl
theorem km2 : KM[2]? = some (10, 1200) := rfl
theorem km3 : KM[3]? = some (9, 10) := rfl
theorem km4 : KM[4]? = some (9, 50) := rfl
theorem km5 : KM[5]? = some (8, 10) := rfl
theorem km6 : KM[6]? = some (8, 10) := rfl
theorem km7 : KM[7]? = some (8, 50) := rfl
theorem km8 : KM[8]? = some (8, 32) := rfl
theorem km9 : KM[9]? = some (8, 32) := rfl
theorem km10 : KM[10]? = some (8, 160) := rfl
theorem km11 : KM[11]? = some (8, 160) := rfl
theorem km12 : KM[12]? = some (8, 2) := rfl
theorem km13 : KM[13]? = some (8, 2) := rfl
theorem km14 : KM[14]? = some (8, 2) := rfl
theorem km15 : KM[15]? = some (8, 20) := rfl
theorem km16 : KM[16]? = some (8, 20) := rfl
theorem km17 : KM[17]? = some (8, 20) := rfl
theorem km18 : KM[18]? = some (8, 20) := rfl
theorem km19 : KM[19]? = some (8, 20) := rfl
theorem km20 : KM[20]? = some (8, 20) := rfl
theorem km21 : KM[21]? = some (8, 1200) := rfl
theorem km22 : KM[22]? = some (8, 1200) := rfl
theorem km23 : KM[23]? = some (8, 80) := rfl
theorem km24 : KM[24]? = some (8, 80) := rfl
theorem km25 : KM[25]? = some (8, 320) := rfl
theorem km26 : KM[26]? = some (8, 60) := rfl
theorem km27 : KM[27]? = some (11, 50) := rfl
theorem km28 : KM[28]? = some (8, 16) := rfl
theorem km29 : KM[29]? = some (8, 10) := rfl
theorem km30 : KM[30]? = some (8, 160) := rfl
theorem km31 : KM[31]? = some (8, 16) := rfl
theorem km32 : KM[32]? = some (8, 25) := rfl
theorem pnX0 : plainName RX0 = true := by decide +kernel
theorem pnX1 : plainName RX1 = true := by decide +kernel
theorem pnX2 : plainName RX2 = true := by decide +kernel
theorem pnX3 : plainName RX3 = true := by decide +kernel
theorem pnX4 : plainName RX4 = true := by decide +kernel
theorem pnX5 : plainName RX5 = true := by decide +kernel
theorem pnX6 : plainName RX6 = true := by decide +kernel
theorem pnX7 : plainName RX7 = true := by decide +kernel
theorem kc810 : Cond.constantLong RX7 17 (499850046565) ∈ lw_ok := ok_t4 (i := 90) ⟨rfl, rfl⟩
theorem kc811 : Cond.constantLong RX7 19 (7499639) ∈ lw_ok := ok_t4 (i := 91) ⟨rfl, rfl⟩
theorem kc812 : Cond.constantLong RX7 21 (29807) ∈ lw_ok := ok_t4 (i := 92) ⟨rfl, rfl⟩
theorem kc813 : Cond.constantLong RX7 23 (2003399528) ∈ lw_ok := ok_t4 (i := 93) ⟨rfl, rfl⟩
theorem kc814 : Cond.constantLong RX7 25 (7102839) ∈ lw_ok := ok_t4 (i := 94) ⟨rfl, rfl⟩
theorem kc815 : Cond.constantLong RX7 27 (512852587109) ∈ lw_ok := ok_t4 (i := 95) ⟨rfl, rfl⟩
theorem kc816 : Cond.constantLong RX7 29 (474147546227) ∈ lw_ok := ok_t4 (i := 96) ⟨rfl, rfl⟩
theorem kc817 : Cond.constantLong RX7 31 (25209) ∈ lw_ok := ok_t4 (i := 97) ⟨rfl, rfl⟩
theorem kc818 : Cond.constantLong RX7 33 (7237492) ∈ lw_ok := ok_t4 (i := 98) ⟨rfl, rfl⟩
theorem kc819 : Cond.constantLong RX7 35 (6385252) ∈ lw_ok := ok_t4 (i := 99) ⟨rfl, rfl⟩
theorem kc820 : Cond.constantLong RX7 37 (28530) ∈ lw_ok := ok_t4 (i := 100) ⟨rfl, rfl⟩
theorem kc1214 : Cond.constantLong RX7 360 (1048576) ∈ lw_ok := ok_t6 (i := 14) ⟨rfl, rfl⟩
