/-! helpers: codes, first finds, sets by a test, the class's step alone -/
/-- 0: none; k + 1: the k-th behind o -/
def cd (o k : Nat) : Int32 := if k = 0 then -1 else nI (o + (k - 1))
theorem cd0 (o : Nat) : cd o 0 = -1 := rfl
theorem cdS (o k : Nat) : cd o (k + 1) = nI (o + k) := rfl
theorem cd_m1 {o k : Nat} (h : o + k < 65536) : cd o k = -1 ↔ k = 0 := by
  constructor
  · intro q
    cases k with
    | zero => rfl
    | succ k => exact absurd q (nI_ne1 (a := o + k) (by omega))
  · intro q; rw [q]; rfl
theorem cd_neg {o k : Nat} (h : o + k < 2 ^ 31) : cd o k < 0 ↔ k = 0 := by
  constructor
  · intro q
    cases k with
    | zero => rfl
    | succ k => exact absurd q (nI_pos (n := o + k) (by omega))
  · intro q; rw [q, cd0]; decide
theorem cd_nn {o k : Nat} (h : o + k < 2 ^ 31) : 0 ≤ cd o k ↔ ¬ k = 0 := by rw [← not_lt0, cd_neg h]
theorem cd_inj {o k l : Nat} (h : o + k < 65536) (h' : o + l < 65536) : cd o k = cd o l ↔ k = l := by
  cases k with
  | zero =>
    cases l with
    | zero => exact ⟨fun _ => rfl, fun _ => rfl⟩
    | succ l => exact ⟨fun q => absurd q.symm (nI_ne1 (a := o + l) (by omega)), fun q => by omega⟩
  | succ k =>
    cases l with
    | zero => exact ⟨fun q => absurd q (nI_ne1 (a := o + k) (by omega)), fun q => by omega⟩
    | succ l => rw [cdS, cdS, nI_eq (by omega) (by omega)]; omega
/-- the first that passes, from i on, of d -/
def ff (p : Nat → Bool) : Nat → Nat → Nat
  | 0, _ => 0
  | d + 1, i => if p i = true then i + 1 else ff p d (i + 1)
theorem ff_cong {p q : Nat → Bool} : ∀ d i, (∀ j, i ≤ j → j < i + d → p j = q j) → ff p d i = ff q d i := by
  intro d
  induction d with
  | zero => intro i _; rfl
  | succ d ih =>
    intro i h
    simp only [ff]
    rw [h i (Nat.le_refl _) (by omega), ih (i + 1) (fun j h1 h2 => h j (by omega) (by omega))]
theorem ff_spec (p : Nat → Bool) : ∀ d i, (ff p d i = 0 ∧ ∀ j, i ≤ j → j < i + d → p j = false) ∨ (∃ k, i ≤ k ∧ k < i + d ∧ ff p d i = k + 1 ∧ p k = true ∧ ∀ j, i ≤ j → j < k → p j = false) := by
  intro d
  induction d with
  | zero => intro i; exact Or.inl ⟨rfl, fun j h1 h2 => by omega⟩
  | succ d ih =>
    intro i
    simp only [ff]
    cases hp : p i with
    | true => exact Or.inr ⟨i, Nat.le_refl _, by omega, by simp, hp, fun j h1 h2 => by omega⟩
    | false =>
      rcases ih (i + 1) with ⟨h1, h2⟩ | ⟨k, h1, h2, h3, h4, h5⟩
      · refine Or.inl ⟨by simpa using h1, fun j j1 j2 => ?_⟩
        by_cases e : j = i
        · subst e; exact hp
        · exact h2 j (by omega) (by omega)
      · refine Or.inr ⟨k, by omega, by omega, by simpa using h3, h4, fun j j1 j2 => ?_⟩
        by_cases e : j = i
        · subst e; exact hp
        · exact h5 j (by omega) (by omega)
theorem ff_le (p : Nat → Bool) (N : Nat) : ff p N 0 ≤ N := by
  rcases ff_spec p N 0 with ⟨h, _⟩ | ⟨k, _, h1, h2, _⟩ <;> omega
theorem ff_pos (p : Nat → Bool) (N : Nat) {k : Nat} (h : ff p N 0 = k + 1) : k < N ∧ p k = true := by
  rcases ff_spec p N 0 with ⟨h0, _⟩ | ⟨k', _, h1, h2, h3, _⟩
  · omega
  · have e : k' = k := by omega
    subst e
    exact ⟨by omega, h3⟩
theorem ff_none (p : Nat → Bool) (N : Nat) : ff p N 0 = 0 ↔ ∀ j, j < N → p j = false := by
  rcases ff_spec p N 0 with ⟨h0, h1⟩ | ⟨k', _, h1, h2, h3, _⟩
  · exact ⟨fun _ j hj => h1 j (by omega) (by omega), fun _ => h0⟩
  · constructor
    · intro h; omega
    · intro h
      rw [h k' (by omega)] at h3
      cases h3
theorem fix_ff {σ ρ : Type} {B : (σ → Option ρ) → σ → Option ρ} (st : Nat → σ) (N : Nat) (p : Nat → Bool) (rs : Nat → Option ρ) (hs : ∀ i, i < N → ∀ kb, B kb (st i) = if p i = true then rs (i + 1) else kb (st (i + 1))) (he : ∀ kb, B kb (st N) = rs 0) :
    ∀ d i n, i + d = N → d < n → fixN B n (st i) = rs (ff p d i) := by
  intro d
  induction d with
  | zero =>
    intro i n hi hn
    obtain ⟨n, rfl⟩ : ∃ k, n = k + 1 := ⟨n - 1, by omega⟩
    have e : i = N := by omega
    subst e
    exact he _
  | succ d ih =>
    intro i n hi hn
    obtain ⟨n, rfl⟩ : ∃ k, n = k + 1 := ⟨n - 1, by omega⟩
    have e : fixN B (n + 1) (st i) = if p i = true then rs (i + 1) else fixN B n (st (i + 1)) := hs i (by omega) _
    rw [e, ih (i + 1) n (by omega) (by omega)]
    simp only [ff]
    split <;> rfl
theorem fix_ff0 {σ ρ : Type} {B : (σ → Option ρ) → σ → Option ρ} (st : Nat → σ) (N : Nat) (p : Nat → Bool) (rs : Nat → Option ρ) (hs : ∀ i, i < N → ∀ kb, B kb (st i) = if p i = true then rs (i + 1) else kb (st (i + 1))) (he : ∀ kb, B kb (st N) = rs 0) (hN : N < 70000) : fixN B FU (st 0) = rs (ff p N 0) := fix_ff st N p rs hs he N 0 FU (by omega) hN
/-- the set of those below i that pass -/
def bs (p : Nat → Bool) : Nat → Nat
  | 0 => 0
  | i + 1 => if p i = true then bs p i ||| 2 ^ i else bs p i
theorem bs_bit (p : Nat → Bool) (n i : Nat) : (bs p n).testBit i = (decide (i < n) && p i) := by
  induction n with
  | zero => simp [bs]
  | succ n ih =>
    simp only [bs]
    by_cases e : i = n
    · subst e
      cases hp : p i with
      | true => simp [setbit]
      | false => simp [ih, hp]
    · have e1 : decide (i < n + 1) = decide (i < n) := decide_eq_decide.mpr (by omega)
      rw [e1, ← ih]
      split
      · rw [setbit, decide_eq_false (by omega : ¬ n = i), Bool.or_false]
      · rfl
theorem bs_lt (p : Nat → Bool) (n : Nat) : bs p n < 2 ^ n := lt_of_bits (fun i hi => by rw [bs_bit] at hi; simp at hi; exact hi.1)
theorem bs_cong {p q : Nat → Bool} {n : Nat} (h : ∀ i, i < n → p i = q i) : bs p n = bs q n := by
  apply Nat.eq_of_testBit_eq
  intro i
  rw [bs_bit, bs_bit]
  by_cases c : i < n
  · rw [h i c]
  · simp [c]
/-- literals -/
theorem l5 (a : Nat) : (5 : Int32) * nI a = nI (5 * a) := nI_mul 5 a
theorem l5' (a : Nat) : nI a * (5 : Int32) = nI (a * 5) := nI_mul a 5
theorem l10 (a : Nat) : (10 : Int32) * nI a = nI (10 * a) := nI_mul 10 a
theorem l16 (a : Nat) : (16 : Int32) * nI a = nI (16 * a) := nI_mul 16 a
theorem l40 (a : Nat) : (40 : Int32) * nI a = nI (40 * a) := nI_mul 40 a
theorem l160 (a : Nat) : (160 : Int32) * nI a = nI (160 * a) := nI_mul 160 a
theorem l600 (a : Nat) : (600 : Int32) * nI a = nI (600 * a) := nI_mul 600 a
theorem ckt {α : Type} {k : Option α} : ckB true k = k := rfl
theorem bk_sub {b : Nat} (hb : b < 2) : (1 : Int32) - nI b = nI (1 - b) := nI_sub (a := 1) (by omega)
/-! the class's step alone -/
theorem x_adv {g : GM} {len p : Nat} {tx : Nat → Nat} {w : Bool} (h : XA g len tx w p) : ∃ g' p', F_X4_advance g = some g' ∧ FrX g g' ∧ XA g' len tx w p' := by
  obtain ⟨hX, h4, hp, h3, hr⟩ := h
  let gm : GM := (fun a b => if a = 0 ∧ b = 3 then nI len else if a = 0 ∧ b = 7 then nI p else if a = 0 ∧ b = 11 then (if w then 1 else 0) else if a = 2 then sx (tx b) else 0, fun _ _ => 0)
  have hM : MTx gm len tx := ⟨hX.1, rfl, fun j hj => ⟨(hX.2.2 j hj).1, rfl⟩⟩
  obtain ⟨t, s, e, gx', gm', a1, a2, a3, a4, a5, a6, a7, a8, a9, a10, a11⟩ := adv hX hM h4 (show gi gm 0 7 = nI p from rfl) hp h3 (show gi gm 0 11 = (if w then 1 else 0) from rfl) hr
  refine ⟨gx', e, a1, a10, ⟨hX.1, by rw [a10.1 _ _ (by omega)]; exact hX.2.1, fun j hj => by rw [a10.1 _ _ (by omega)]; exact hX.2.2 j hj⟩, a3.1, a7, by rw [a10.1 _ _ (by omega)]; exact h3, fun i hi => by rw [a10.2 _ _ (by omega)]; exact hr i hi⟩
