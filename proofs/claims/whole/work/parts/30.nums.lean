/-! numbers: Int32 by Nat -/
theorem nI_and (a b : Nat) : nI a &&& nI b = nI (a &&& b) := by
  apply Int32.toBitVec_inj.mp
  show BitVec.ofNat 32 a &&& BitVec.ofNat 32 b = BitVec.ofNat 32 (a &&& b)
  exact (BitVec.ofNat_and).symm
theorem nI_or (a b : Nat) : nI a ||| nI b = nI (a ||| b) := by
  apply Int32.toBitVec_inj.mp
  show BitVec.ofNat 32 a ||| BitVec.ofNat 32 b = BitVec.ofNat 32 (a ||| b)
  exact (BitVec.ofNat_or).symm
theorem nI_xor (a b : Nat) : nI a ^^^ nI b = nI (a ^^^ b) := by
  apply Int32.toBitVec_inj.mp
  show BitVec.ofNat 32 a ^^^ BitVec.ofNat 32 b = BitVec.ofNat 32 (a ^^^ b)
  exact (BitVec.ofNat_xor).symm
/-- a without b -/
def adn (a b : Nat) : Nat := a &&& (a ^^^ b)
theorem adn_bit (a b i : Nat) : (adn a b).testBit i = (a.testBit i && !b.testBit i) := by
  simp only [adn, Nat.testBit_and, Nat.testBit_xor]
  cases a.testBit i <;> cases b.testBit i <;> rfl
theorem nI_m1 : (-1 : Int32) = nI 4294967295 := by decide
theorem nI_adn (a b : Nat) (ha : a < 2 ^ 32) : nI a &&& (nI b ^^^ (-1)) = nI (adn a b) := by
  rw [nI_m1, nI_xor, nI_and]
  congr 1
  apply Nat.eq_of_testBit_eq
  intro i
  rw [adn_bit, Nat.testBit_and, Nat.testBit_xor]
  by_cases hi : i < 32
  · have : (4294967295 : Nat).testBit i = true := by
      rw [show (4294967295 : Nat) = 2 ^ 32 - 1 from rfl, Nat.testBit_two_pow_sub_one]
      simpa using hi
    rw [this]
    cases a.testBit i <;> cases b.testBit i <;> rfl
  · have h0 : a.testBit i = false := Nat.testBit_lt_two_pow (Nat.lt_of_lt_of_le ha (Nat.pow_le_pow_right (by decide) (by omega)))
    simp [h0]
theorem nI_31 {k : Nat} (hk : k < 32) : nI k &&& 31 = nI k := by
  rw [show (31 : Int32) = nI 31 from rfl, nI_and]
  congr 1
  rw [show (31 : Nat) = 2 ^ 5 - 1 from rfl, Nat.and_two_pow_sub_one_eq_mod]
  exact Nat.mod_eq_of_lt hk
theorem smod_nI : ∀ k, k < 31 → ((nI k).toBitVec.smod 32).toNat = k := by decide +kernel
theorem nI_shr {n k : Nat} (hn : n < 2 ^ 31) (hk : k < 31) : nI n >>> (nI k &&& 31) = nI (n / 2 ^ k) := by
  rw [nI_31 (by omega)]
  exact pk_shrN hn _ k (smod_nI k hk)
theorem nI_shl {n k : Nat} (hk : k < 31) (h : n * 2 ^ k < 2 ^ 32) : nI n <<< (nI k &&& 31) = nI (n * 2 ^ k) := by
  rw [nI_31 (by omega)]
  exact pk_shlN _ k (smod_nI k hk) h
theorem nI_bit {n k : Nat} (hn : n < 2 ^ 31) (hk : k < 31) : (nI n >>> (nI k &&& 31)) &&& 1 = nI (n / 2 ^ k % 2) := by
  rw [nI_shr hn hk, show (1 : Int32) = nI 1 from rfl, nI_and]
  congr 1
  rw [show (1 : Nat) = 2 ^ 1 - 1 from rfl, Nat.and_two_pow_sub_one_eq_mod]
theorem tb_div (n k : Nat) : n.testBit k = decide (n / 2 ^ k % 2 = 1) := by
  rw [Nat.testBit_eq_decide_div_mod_eq]
theorem bit_t {n k : Nat} (h : n.testBit k = true) : n / 2 ^ k % 2 = 1 := by rw [tb_div] at h; simpa using h
theorem bit_f {n k : Nat} (h : n.testBit k = false) : n / 2 ^ k % 2 = 0 := by rw [tb_div] at h; simp at h; omega
/-- how many of the first k bits are set -/
def pcn (m : Nat) : Nat → Nat
  | 0 => 0
  | k + 1 => pcn m k + m / 2 ^ k % 2
def pc (m : Nat) : Nat := pcn m 16
theorem pcn_le (m k : Nat) : pcn m k ≤ k := by
  induction k with
  | zero => exact Nat.le_refl _
  | succ k ih => simp only [pcn]; omega
theorem pc_le (m : Nat) : pc m ≤ 16 := pcn_le m 16
/-! loops -/
theorem fix_for {σ ρ : Type} {B : (σ → Option ρ) → σ → Option ρ} (st : Nat → σ) (N : Nat) (res : Option ρ) (hs : ∀ i, i < N → ∀ kb, B kb (st i) = kb (st (i + 1))) (he : ∀ kb, B kb (st N) = res) : ∀ d i n, i + d = N → d < n → fixN B n (st i) = res := by
  intro d
  induction d with
  | zero =>
    intro i n hi hn
    obtain ⟨n, rfl⟩ : ∃ k, n = k + 1 := ⟨n - 1, by omega⟩
    have : i = N := by omega
    subst this
    exact he _
  | succ d ih =>
    intro i n hi hn
    obtain ⟨n, rfl⟩ : ∃ k, n = k + 1 := ⟨n - 1, by omega⟩
    show B (fixN B n) (st i) = res
    rw [hs i (by omega)]
    exact ih (i + 1) n (by omega) (by omega)
theorem fix_for0 {σ ρ : Type} {B : (σ → Option ρ) → σ → Option ρ} (st : Nat → σ) (N : Nat) (res : Option ρ) (hs : ∀ i, i < N → ∀ kb, B kb (st i) = kb (st (i + 1))) (he : ∀ kb, B kb (st N) = res) (hN : N < 70000) : fixN B FU (st 0) = res := fix_for st N res hs he N 0 FU (by omega) hN
theorem lt_def {α β : Type} (a : α) (f : α → Option β) : lt a f = f a := rfl
/-! bits counted -/
theorem m_bitsOf {m : Nat} (hm : m < 2 ^ 31) : F_X7_bitsOf (nI m) = some (nI (pc m)) := by
  show fixN (F_X7_bitsOf_4B (nI m)) FU ((nI 0 : Int32), (nI 0 : Int32)) = _
  refine fix_for0 (fun i => (nI (pcn m i), nI i)) 16 _ (fun i hi kb => ?_) (fun kb => ?_) (by decide)
  · show (if (16 : Int32) ≤ nI i then some (nI (pcn m i)) else lt (nI (pcn m i) + ((nI m >>> (nI i &&& 31)) &&& 1)) fun x1 => lt (nI i + 1) fun x2 => kb (x1, x2)) = _
    rw [if_neg (show ¬ (16 : Int32) ≤ nI i from nI_ge (a := i) (b := 16) hi (by decide)), nI_bit hm (by omega), nI_add, nI_1]
    rfl
  · unfold F_X7_bitsOf_4B
    dsimp only
    rw [if_pos (by decide)]
    rfl
def swarN (x : Nat) : Nat :=
  let a := x - ((x / 2) &&& 1431655765)
  let b := (a &&& 858993459) + ((a / 4) &&& 858993459)
  let c := (b + b / 16) &&& 252645135
  let d := c + c / 256
  let e := d + d / 65536
  e &&& 63
theorem cat_bit {a b i : Nat} (ha : a < 256) : (256 * b + a).testBit i = if i < 8 then a.testBit i else b.testBit (i - 8) := by
  have h := Nat.testBit_two_pow_mul_add (i := 8) b (b := a) (by simpa using ha) i
  simpa using h
theorem and_cat {a b m n : Nat} (ha : a < 256) (hm : m < 256) : (256 * b + a) &&& (256 * n + m) = 256 * (b &&& n) + (a &&& m) := by
  apply Nat.eq_of_testBit_eq
  intro i
  have h : a &&& m < 256 := Nat.lt_of_le_of_lt Nat.and_le_left ha
  rw [Nat.testBit_and, cat_bit ha, cat_bit hm, cat_bit h]
  by_cases hi : i < 8 <;> simp [hi, Nat.testBit_and]
theorem sw1 : ∀ a, a < 256 → ∀ c, c < 2 → (a / 2 + 128 * c) &&& 85 = (a / 2) &&& 85 ∧ (a / 2) &&& 85 ≤ a := by decide +kernel
theorem sw2 : ∀ a, a < 256 → ∀ c, c < 4 → (a / 4 + 64 * c) &&& 51 = (a / 4) &&& 51 ∧ (a &&& 51) + ((a / 4) &&& 51) ≤ 102 := by decide +kernel
theorem sw3 : ∀ a, a < 103 → ∀ c, c < 7 → (a + a / 16 + 16 * c) &&& 15 = (a + a / 16) &&& 15 := by decide +kernel
def s8 (a : Nat) : Nat := let x := a - ((a / 2) &&& 85); let y := (x &&& 51) + ((x / 4) &&& 51); (y + y / 16) &&& 15
theorem s8_ok : ∀ a, a < 256 → s8 a = pcn a 8 ∧ (a - ((a / 2) &&& 85)) < 256 ∧ (((a - ((a / 2) &&& 85)) &&& 51) + (((a - ((a / 2) &&& 85)) / 4) &&& 51)) % 16 < 7 ∧ (((a - ((a / 2) &&& 85)) &&& 51) + (((a - ((a / 2) &&& 85)) / 4) &&& 51)) < 103 := by decide +kernel
theorem swar_cat {a b : Nat} (ha : a < 256) (hb : b < 256) : swarN (256 * b + a) = s8 b + s8 a := by
  obtain ⟨pa, a1, a2, a3⟩ := s8_ok a ha
  obtain ⟨pb, b1, b2, b3⟩ := s8_ok b hb
  simp only [swarN, s8] at pa pb ⊢
  have e1 : (256 * b + a) / 2 = 256 * (b / 2) + (a / 2 + 128 * (b % 2)) := by omega
  have k1 : a / 2 + 128 * (b % 2) < 256 := by omega
  rw [e1, show (1431655765 : Nat) = 256 * 5592405 + 85 from rfl, and_cat k1 (by decide), (sw1 a ha (b % 2) (by omega)).1]
  have e2 : b / 2 &&& 5592405 = (b / 2) &&& 85 := by
    have := and_cat (a := b / 2) (b := 0) (m := 85) (n := 21845) (by omega) (by decide)
    simpa using this
  rw [e2]
  have l1 := (sw1 a ha 0 (by decide)).2
  have l2 := (sw1 b hb 0 (by decide)).2
  have e3 : 256 * b + a - (256 * ((b / 2) &&& 85) + ((a / 2) &&& 85)) = 256 * (b - ((b / 2) &&& 85)) + (a - ((a / 2) &&& 85)) := by omega
  rw [e3]
  generalize hX : a - ((a / 2) &&& 85) = X at *
  generalize hY : b - ((b / 2) &&& 85) = Y at *
  have e4 : (256 * Y + X) / 4 = 256 * (Y / 4) + (X / 4 + 64 * (Y % 4)) := by omega
  have e5 : Y &&& 3355443 = Y &&& 51 := by
    have := and_cat (a := Y) (b := 0) (m := 51) (n := 13107) b1 (by decide)
    simpa using this
  have e6 : Y / 4 &&& 3355443 = Y / 4 &&& 51 := by
    have := and_cat (a := Y / 4) (b := 0) (m := 51) (n := 13107) (by omega) (by decide)
    simpa using this
  rw [e4, show (858993459 : Nat) = 256 * 3355443 + 51 from rfl, and_cat a1 (by decide), and_cat (show X / 4 + 64 * (Y % 4) < 256 by omega) (by decide), (sw2 X a1 (Y % 4) (by omega)).1, e5, e6]
  have e7 : 256 * (Y &&& 51) + (X &&& 51) + (256 * (Y / 4 &&& 51) + (X / 4 &&& 51)) = 256 * ((Y &&& 51) + (Y / 4 &&& 51)) + ((X &&& 51) + (X / 4 &&& 51)) := by omega
  rw [e7]
  generalize (X &&& 51) + (X / 4 &&& 51) = P at *
  generalize (Y &&& 51) + (Y / 4 &&& 51) = R at *
  have e8 : 256 * R + P + (256 * R + P) / 16 = 256 * (R + R / 16) + (P + P / 16 + 16 * (R % 16)) := by omega
  have k8 : P + P / 16 + 16 * (R % 16) < 256 := by omega
  rw [e8, show (252645135 : Nat) = 256 * 986895 + 15 from rfl, and_cat k8 (by decide), sw3 P a3 (R % 16) b2]
  have e9 : R + R / 16 &&& 986895 = (R + R / 16) &&& 15 := by
    have := and_cat (a := R + R / 16) (b := 0) (m := 15) (n := 3855) (by omega) (by decide)
    simpa using this
  rw [e9]
  have u1 : (P + P / 16) &&& 15 ≤ 15 := Nat.and_le_right
  have u2 : (R + R / 16) &&& 15 ≤ 15 := Nat.and_le_right
  generalize (P + P / 16) &&& 15 = U at *
  generalize (R + R / 16) &&& 15 = V at *
  have e10 : 256 * V + U + (256 * V + U) / 256 = 256 * V + (U + V) := by omega
  have e11 : 256 * V + (U + V) + (256 * V + (U + V)) / 65536 = 256 * V + (U + V) := by omega
  rw [e10, e11, show (63 : Nat) = 256 * 0 + 63 from rfl, and_cat (show U + V < 256 by omega) (by decide)]
  have e12 : U + V &&& 63 = U + V := by
    rw [show (63 : Nat) = 2 ^ 6 - 1 from rfl, Nat.and_two_pow_sub_one_eq_mod]
    exact Nat.mod_eq_of_lt (by omega)
  rw [e12]
  simp
  omega
theorem pcn_add (m k j : Nat) : pcn m (k + j) = pcn m k + pcn (m / 2 ^ k) j := by
  induction j with
  | zero => rfl
  | succ j ih =>
    show pcn m (k + j) + m / 2 ^ (k + j) % 2 = _
    rw [ih]
    simp only [pcn]
    rw [Nat.pow_add, Nat.div_div_eq_div_mul]
    omega
theorem pcn_mod (m k j : Nat) (h : j ≤ k) : pcn (m % 2 ^ k) j = pcn m j := by
  induction j with
  | zero => rfl
  | succ j ih =>
    simp only [pcn]
    rw [ih (by omega)]
    congr 1
    have hb : (m % 2 ^ k).testBit j = m.testBit j := by rw [Nat.testBit_mod_two_pow]; simp; omega
    rw [tb_div, tb_div] at hb
    have h1 : m % 2 ^ k / 2 ^ j % 2 < 2 := Nat.mod_lt _ (by decide)
    have h2 : m / 2 ^ j % 2 < 2 := Nat.mod_lt _ (by decide)
    have hb' := decide_eq_decide.mp hb
    omega
theorem swar_pc {x : Nat} (hx : x < 65536) : swarN x = pc x := by
  have e : x = 256 * (x / 256) + x % 256 := by omega
  have h := swar_cat (a := x % 256) (b := x / 256) (by omega) (by omega)
  rw [← e] at h
  rw [h, (s8_ok _ (by omega)).1, (s8_ok _ (by omega)).1]
  show _ = pcn x (8 + 8)
  rw [pcn_add, ← pcn_mod x 8 8 (Nat.le_refl _)]
  exact Nat.add_comm _ _
theorem nI_sub {a b : Nat} (h : b ≤ a) : nI a - nI b = nI (a - b) := pk_sub h
theorem j_bitCount {x : Nat} (hx : x < 65536) : F_J6_bitCount_0f7a4 (nI x) = some (nI (pc x)) := by
  rw [← swar_pc hx]
  have u1 : ((nI x).toUInt32 >>> ((1 : Int32).toUInt32 &&& Int32.toUInt32 31)).toInt32 = nI (x / 2) := pk_ushrN (n := x) (by omega) 1 1 (by decide)
  have v1 : nI x - (nI (x / 2) &&& 1431655765) = nI (x - ((x / 2) &&& 1431655765)) := by
    rw [show (1431655765 : Int32) = nI 1431655765 from rfl, nI_and, nI_sub (Nat.le_trans Nat.and_le_left (by omega))]
  have k1 : x - ((x / 2) &&& 1431655765) < 65536 := by omega
  unfold F_J6_bitCount_0f7a4
  simp only [lt_def, u1, v1]
  simp only [swarN]
  generalize x - ((x / 2) &&& 1431655765) = A at *
  have u2 : ((nI A).toUInt32 >>> ((2 : Int32).toUInt32 &&& Int32.toUInt32 31)).toInt32 = nI (A / 4) := pk_ushrN (n := A) (by omega) 2 2 (by decide)
  have v2 : (nI A &&& 858993459) + (nI (A / 4) &&& 858993459) = nI ((A &&& 858993459) + (A / 4 &&& 858993459)) := by
    rw [show (858993459 : Int32) = nI 858993459 from rfl, nI_and, nI_and, nI_add]
  have k2 : (A &&& 858993459) + (A / 4 &&& 858993459) < 131072 := by
    have h1 : A &&& 858993459 ≤ A := Nat.and_le_left
    have h2 : A / 4 &&& 858993459 ≤ A / 4 := Nat.and_le_left
    omega
  simp only [u2, v2]
  generalize (A &&& 858993459) + (A / 4 &&& 858993459) = B at *
  have u3 : ((nI B).toUInt32 >>> ((4 : Int32).toUInt32 &&& Int32.toUInt32 31)).toInt32 = nI (B / 16) := pk_ushrN (n := B) (by omega) 4 4 (by decide)
  have v3 : (nI B + nI (B / 16)) &&& 252645135 = nI ((B + B / 16) &&& 252645135) := by
    rw [show (252645135 : Int32) = nI 252645135 from rfl, nI_add, nI_and]
  have k3 : (B + B / 16) &&& 252645135 < 262144 := Nat.lt_of_le_of_lt Nat.and_le_left (by omega)
  simp only [u3, v3]
  generalize (B + B / 16) &&& 252645135 = E at *
  have u4 : ((nI E).toUInt32 >>> ((8 : Int32).toUInt32 &&& Int32.toUInt32 31)).toInt32 = nI (E / 256) := pk_ushrN (n := E) (by omega) 8 8 (by decide)
  simp only [u4, nI_add]
  generalize hG : E + E / 256 = G at *
  have u5 : ((nI G).toUInt32 >>> ((16 : Int32).toUInt32 &&& Int32.toUInt32 31)).toInt32 = nI (G / 65536) := pk_ushrN (n := G) (by omega) 16 16 (by decide)
  simp only [u5, nI_add]
  rw [show (63 : Int32) = nI 63 from rfl, nI_and]
