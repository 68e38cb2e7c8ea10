/-! bytes, names -/
def sx (v : Nat) : Int32 := (nI v).toInt8.toInt32
theorem sx_32 : ∀ v, v < 256 → (sx v = 32 ↔ v = 32) := by decide +kernel
theorem sx_10 : ∀ v, v < 256 → (sx v = 10 ↔ v = 10) := by decide +kernel
theorem sx_lt97 : ∀ v, v < 256 → (sx v < 97 ↔ v < 97 ∨ 128 ≤ v) := by decide +kernel
theorem sx_gt122 : ∀ v, v < 256 → (122 < sx v ↔ 122 < v ∧ v < 128) := by decide +kernel
theorem sx_lt48 : ∀ v, v < 256 → (sx v < 48 ↔ v < 48 ∨ 128 ≤ v) := by decide +kernel
theorem sx_gt57 : ∀ v, v < 256 → (57 < sx v ↔ 57 < v ∧ v < 128) := by decide +kernel
theorem sx_255 : ∀ v, v < 256 → sx v &&& 255 = nI v := by decide +kernel
theorem sx_low : ∀ v, v < 128 → sx v = nI v := by decide +kernel
theorem nI_97 : ∀ v, v < 256 → (nI v < 97 ↔ v < 97) := by decide +kernel
theorem nI_122 : ∀ v, v < 256 → (122 < nI v ↔ 122 < v) := by decide +kernel
theorem nI_48 : ∀ v, v < 256 → (nI v < 48 ↔ v < 48) := by decide +kernel
theorem nI_57 : ∀ v, v < 256 → (57 < nI v ↔ 57 < v) := by decide +kernel
theorem nI_32 : ∀ v, v < 256 → (nI v = 32 ↔ v = 32) := by decide +kernel
theorem nI_10 : ∀ v, v < 256 → (nI v = 10 ↔ v = 10) := by decide +kernel
theorem sx_i8 : ∀ v, v < 256 → (sx v).toInt8.toInt32 = sx v := by decide +kernel
theorem sx_ch : ∀ v, v < 256 → ((nI v).toUInt32 % 65536).toInt32 = nI v := by decide +kernel
def isL (v : Nat) : Prop := 97 ≤ v ∧ v ≤ 122
def isD (v : Nat) : Prop := 48 ≤ v ∧ v ≤ 57
/-- letters from p on, read with 32 .. -/
def w32 (tx : Nat → Nat) (p : Nat) : Nat → Nat
  | 0 => 0
  | k + 1 => w32 tx p k * 32 + (tx (p + k) - 96)
/-- .. and with 256 -/
def w256 (tx : Nat → Nat) (p : Nat) : Nat → Nat
  | 0 => 0
  | k + 1 => w256 tx p k * 256 + tx (p + k)
def dv (tx : Nat → Nat) (p : Nat) : Nat → Nat
  | 0 => 0
  | k + 1 => dv tx p k * 10 + (tx (p + k) - 48)
theorem w32_lt (tx : Nat → Nat) (p : Nat) : ∀ k, (∀ j, j < k → isL (tx (p + j))) → w32 tx p k < 32 ^ k := by
  intro k
  induction k with
  | zero => intro _; exact Nat.one_pos
  | succ k ih =>
    intro h
    have h1 := ih (fun j hj => h j (by omega))
    have h2 := h k (by omega)
    unfold isL at h2
    simp only [w32]
    rw [Nat.pow_succ]
    omega
theorem w256_lt (tx : Nat → Nat) (p : Nat) : ∀ k, (∀ j, j < k → isL (tx (p + j))) → w256 tx p k < 256 ^ k := by
  intro k
  induction k with
  | zero => intro _; exact Nat.one_pos
  | succ k ih =>
    intro h
    have h1 := ih (fun j hj => h j (by omega))
    have h2 := h k (by omega)
    unfold isL at h2
    simp only [w256]
    rw [Nat.pow_succ]
    omega
theorem dv_lt (tx : Nat → Nat) (p : Nat) : ∀ k, (∀ j, j < k → isD (tx (p + j))) → dv tx p k < 10 ^ k := by
  intro k
  induction k with
  | zero => intro _; exact Nat.one_pos
  | succ k ih =>
    intro h
    have h1 := ih (fun j hj => h j (by omega))
    have h2 := h k (by omega)
    unfold isD at h2
    simp only [dv]
    rw [Nat.pow_succ]
    omega
theorem w_inj (tx ty : Nat → Nat) (p q : Nat) : ∀ k l, (∀ j, j < k → isL (tx (p + j))) → (∀ j, j < l → isL (ty (q + j))) → (w32 tx p k = w32 ty q l ↔ w256 tx p k = w256 ty q l) := by
  intro k
  induction k with
  | zero =>
    intro l h1 h2
    cases l with
    | zero => exact ⟨fun _ => rfl, fun _ => rfl⟩
    | succ l =>
      have := h2 l (by omega)
      unfold isL at this
      simp only [w32, w256]
      constructor <;> (intro h; omega)
  | succ k ih =>
    intro l h1 h2
    have a1 := h1 k (by omega)
    unfold isL at a1
    cases l with
    | zero =>
      simp only [w32, w256]
      constructor <;> (intro h; omega)
    | succ l =>
      have a2 := h2 l (by omega)
      unfold isL at a2
      have e := ih l (fun j hj => h1 j (by omega)) (fun j hj => h2 j (by omega))
      simp only [w32, w256]
      constructor
      · intro h
        have h3 := e.mp (by omega)
        omega
      · intro h
        have h3 := e.mpr (by omega)
        omega
/-- one name as both sides write it -/
def NR (w v : Int64) : Prop := ∃ (tx : Nat → Nat) (p k : Nat), k ≤ 8 ∧ (∀ j, j < k → isL (tx (p + j))) ∧ w = lN (w32 tx p k) ∧ v = lN (w256 tx p k)
theorem lN_inj {a b : Nat} (ha : a < 2 ^ 64) (hb : b < 2 ^ 64) : lN a = lN b ↔ a = b := by
  constructor
  · intro h
    have h1 : (lN a).toBitVec.toNat = (lN b).toBitVec.toNat := by rw [h]
    have h2 : (BitVec.ofNat 64 a).toNat = (BitVec.ofNat 64 b).toNat := h1
    rw [BitVec.toNat_ofNat, BitVec.toNat_ofNat, Nat.mod_eq_of_lt ha, Nat.mod_eq_of_lt hb] at h2
    exact h2
  · intro h; rw [h]
theorem pow_le8 {b k : Nat} (hb : 0 < b) (hk : k ≤ 8) : b ^ k ≤ b ^ 8 := Nat.pow_le_pow_right hb hk
theorem NR.iff {w v w' v' : Int64} (h : NR w v) (h' : NR w' v') : w = w' ↔ v = v' := by
  obtain ⟨tx, p, k, hk, hL, rfl, rfl⟩ := h
  obtain ⟨ty, q, l, hl, hL', rfl, rfl⟩ := h'
  have a1 := w32_lt tx p k hL
  have a2 := w32_lt ty q l hL'
  have a3 := w256_lt tx p k hL
  have a4 := w256_lt ty q l hL'
  have b1 := pow_le8 (b := 32) (by decide) hk
  have b2 := pow_le8 (b := 32) (by decide) hl
  have b3 := pow_le8 (b := 256) (by decide) hk
  have b4 := pow_le8 (b := 256) (by decide) hl
  have c1 : (32 : Nat) ^ 8 < 2 ^ 64 := by decide
  have c2 : (256 : Nat) ^ 8 ≤ 2 ^ 64 := by decide
  rw [lN_inj (by omega) (by omega), lN_inj (by omega) (by omega)]
  exact w_inj tx ty p q k l hL hL'
theorem lshl8 (n c : Nat) (hc : c < 256) : (lN n <<< ((8 : Int32).toInt64 &&& 63)) ||| lN c = lN (n * 256 + c) := by
  apply Int64.toBitVec_inj.mp
  show (BitVec.ofNat 64 n <<< (((8 : Int32).toInt64 &&& 63).toBitVec.smod 64)) ||| BitVec.ofNat 64 c = BitVec.ofNat 64 (n * 256 + c)
  rw [show (((8 : Int32).toInt64 &&& 63).toBitVec.smod 64) = 8#64 by decide]
  apply BitVec.eq_of_getLsbD_eq
  intro i hi
  rw [BitVec.getLsbD_or, BitVec.getLsbD_ofNat, BitVec.getLsbD_ofNat]
  have e : (n * 256 + c).testBit i = if i < 8 then c.testBit i else n.testBit (i - 8) := by
    rw [Nat.mul_comm]
    exact cat_bit hc
  rw [e, BitVec.getLsbD_shiftLeft']
  by_cases c8 : i < 8
  · simp [c8, hi]
  · have hcb : c.testBit i = false := Nat.testBit_lt_two_pow (Nat.lt_of_lt_of_le hc (by have : (256 : Nat) = 2 ^ 8 := rfl; rw [this]; exact Nat.pow_le_pow_right (by decide) (by omega)))
    rw [hcb]
    simp [c8, hi, BitVec.getLsbD_ofNat]
    omega
/-- the reserved words -/
def WL : List (List Nat) := [[116, 97, 98, 108, 101], [114, 111, 119], [116, 111], [119, 105, 115, 104], [108, 97, 119], [119, 104, 101, 114, 101], [110, 101, 101, 100, 115], [98, 121], [110, 111, 116], [97, 110, 100], [111, 114]]
def wX (i : Nat) : Int64 := lN (w32 (fun j => (WL.getD i []).getD j 0) 0 (WL.getD i []).length)
def wM (i : Nat) : Int64 := lN (w256 (fun j => (WL.getD i []).getD j 0) 0 (WL.getD i []).length)
theorem WL_ok : ∀ i, i < 11 → (WL.getD i []).length ≤ 8 ∧ ∀ j, j < (WL.getD i []).length → (97 ≤ (WL.getD i []).getD (0 + j) 0 ∧ (WL.getD i []).getD (0 + j) 0 ≤ 122) := by decide +kernel
theorem NRw {i : Nat} (hi : i < 11) : NR (wX i) (wM i) := ⟨fun j => (WL.getD i []).getD j 0, 0, _, (WL_ok i hi).1, (WL_ok i hi).2, rfl, rfl⟩
theorem wM_tab : wM 0 = 499850046565 ∧ wM 1 = 7499639 ∧ wM 2 = 29807 ∧ wM 3 = 2003399528 ∧ wM 4 = 7102839 ∧ wM 5 = 512852587109 ∧ wM 6 = 474147546227 ∧ wM 7 = 25209 ∧ wM 8 = 7237492 ∧ wM 9 = 6385252 ∧ wM 10 = 28530 := by decide +kernel
theorem wX_ne : ∀ i, i < 11 → ∀ j, j < 11 → wX i = wX j → i = j := by decide +kernel
theorem wM_ne : ∀ i, i < 11 → ∀ j, j < 11 → wM i = wM j → i = j := by decide +kernel
theorem scan (P : Nat → Prop) (len : Nat) : ∀ d p, p + d = len → ∃ q, p ≤ q ∧ q ≤ len ∧ (∀ j, p ≤ j → j < q → P j) ∧ (q < len → ¬ P q) := by
  intro d
  induction d with
  | zero => intro p hp; exact ⟨p, Nat.le_refl _, by omega, fun j h1 h2 => by omega, fun h => by omega⟩
  | succ d ih =>
    intro p hp
    by_cases c : P p
    · obtain ⟨q, h1, h2, h3, h4⟩ := ih (p + 1) (by omega)
      refine ⟨q, by omega, h2, fun j j1 j2 => ?_, h4⟩
      by_cases e : j = p
      · subst e; exact c
      · exact h3 j (by omega) j2
    · exact ⟨p, Nat.le_refl _, by omega, fun j h1 h2 => by omega, fun _ => c⟩
theorem si_same {g : GM} {i k : Nat} {v : Int32} (h : gi g i k = v) : si g i k v = g := by
  obtain ⟨a, b⟩ := g
  show ((fun x y => if x = i ∧ y = k then v else a x y), b) = (a, b)
  congr 1
  funext x y
  split
  · rename_i q
    rw [q.1, q.2]
    exact h.symm
  · rfl
theorem si_si {g : GM} {i k : Nat} {v w : Int32} : si (si g i k v) i k w = si g i k w := by
  obtain ⟨a, b⟩ := g
  show ((fun x y => if x = i ∧ y = k then w else if x = i ∧ y = k then v else a x y), b) = ((fun x y => if x = i ∧ y = k then w else a x y), b)
  congr 1
  funext x y
  split <;> rfl
theorem sl_sl {g : GM} {i k : Nat} {v w : Int64} : sl (sl g i k v) i k w = sl g i k w := by
  obtain ⟨a, b⟩ := g
  show (a, (fun x y => if x = i ∧ y = k then w else if x = i ∧ y = k then v else b x y)) = (a, (fun x y => if x = i ∧ y = k then w else b x y))
  congr 1
  funext x y
  split <;> rfl
theorem sl_si {g : GM} {i k i' k' : Nat} {v : Int64} {w : Int32} : sl (si g i k w) i' k' v = si (sl g i' k' v) i k w := rfl
