/-! a loop that goes on while P holds -/
theorem fix_chk {σ ρ : Type} {B : (σ → Option ρ) → σ → Option ρ} (st : Nat → σ) (N : Nat) (P : Nat → Prop) (rt rf : Option ρ) (hs : ∀ i, i < N → P i → ∀ kb, B kb (st i) = kb (st (i + 1))) (hf : ∀ i, i < N → ¬ P i → ∀ kb, B kb (st i) = rf) (he : ∀ kb, B kb (st N) = rt) :
    ∀ d i n, i + d = N → d < n → ((∀ k, i ≤ k → k < N → P k) → fixN B n (st i) = rt) ∧ (¬ (∀ k, i ≤ k → k < N → P k) → fixN B n (st i) = rf) := by
  intro d
  induction d with
  | zero =>
    intro i n hi hn
    obtain ⟨n, rfl⟩ : ∃ k, n = k + 1 := ⟨n - 1, by omega⟩
    have e : i = N := by omega
    subst e
    exact ⟨fun _ => he _, fun h => absurd (fun k h1 h2 => by omega) h⟩
  | succ d ih =>
    intro i n hi hn
    obtain ⟨n, rfl⟩ : ∃ k, n = k + 1 := ⟨n - 1, by omega⟩
    obtain ⟨i1, i2⟩ := ih (i + 1) n (by omega) (by omega)
    by_cases hP : P i
    · have e : fixN B (n + 1) (st i) = fixN B n (st (i + 1)) := hs i (by omega) hP _
      rw [e]
      refine ⟨fun h => i1 (fun k h1 h2 => h k (by omega) h2), fun h => i2 (fun h' => h (fun k h1 h2 => ?_))⟩
      by_cases e : k = i
      · subst e; exact hP
      · exact h' k (by omega) h2
    · have e : fixN B (n + 1) (st i) = rf := hf i (by omega) hP _
      exact ⟨fun h => absurd (h i (Nat.le_refl _) (by omega)) hP, fun _ => e⟩
theorem fix_chk0 {σ ρ : Type} {B : (σ → Option ρ) → σ → Option ρ} (st : Nat → σ) (N : Nat) (P : Nat → Prop) (rt rf : Option ρ) (hs : ∀ i, i < N → P i → ∀ kb, B kb (st i) = kb (st (i + 1))) (hf : ∀ i, i < N → ¬ P i → ∀ kb, B kb (st i) = rf) (he : ∀ kb, B kb (st N) = rt) (hN : N < 70000) :
    ((∀ k, k < N → P k) → fixN B FU (st 0) = rt) ∧ (¬ (∀ k, k < N → P k) → fixN B FU (st 0) = rf) := by
  obtain ⟨h1, h2⟩ := fix_chk st N P rt rf hs hf he N 0 FU (by omega) hN
  exact ⟨fun h => h1 (fun k _ hk => h k hk), fun h => h2 (fun h' => h (fun k hk => h' k (Nat.zero_le _) hk))⟩
theorem p16 {n : Nat} (hn : n ≤ 16) {a : Nat} (ha : a < 2 ^ n) : a < 65536 := Nat.lt_of_lt_of_le ha (Nat.pow_le_pow_right (by decide) hn)
theorem x_has {s r : Nat} (hs : s < 65536) (hr : r < 31) : F_X6_has (nI s) (nI r) = some (if s.testBit r = true then 1 else 0) := by
  unfold F_X6_has
  rw [nI_bit (by omega) hr, bitv]
  cases s.testBit r
  · rfl
  · rfl
theorem nI_z {a : Nat} (ha : a < 65536) : nI a = 0 ↔ a = 0 := nI_eq (b := 0) (by omega) (by decide)
/-! the class's pieces: what the memory says -/
def PI (g : GM) (n m G : Nat) (lk ow nd hp : Nat → Nat) : Prop :=
  n ≤ 16 ∧ m ≤ 160 ∧ gi g 6 6 = nI n ∧ gi g 28 4 = nI m ∧ G < 2 ^ n ∧ gi g 42 2 = nI G ∧ (∀ r, r < n → gi g 16 r = nI (lk r) ∧ lk r < 2 ^ n) ∧ (∀ j, j < m → gi g 32 j = nI (ow j) ∧ gi g 33 j = nI (nd j) ∧ gi g 34 j = nI (hp j) ∧ ow j < 2 ^ n ∧ nd j ≤ 16 ∧ hp j < 2 ^ n)
def bd (ow : Nat → Nat) (s j : Nat) : Prop := ow j = 0 ∨ ¬ ow j &&& s = 0
def Pc (n m G : Nat) (lk ow nd hp : Nat → Nat) (s : Nat) : Prop := s < 2 ^ n ∧ s &&& G = 0 ∧ (∀ r, r < n → s.testBit r = true → Sub (lk r) s) ∧ ∀ j, j < m → bd ow s j → nd j ≤ pc (hp j &&& s)
section PIECE
variable {g : GM} {n m G : Nat} {lk ow nd hp : Nat → Nat}
theorem and_lt16 {a b : Nat} (ha : a < 65536) : a &&& b < 65536 := Nat.lt_of_le_of_lt Nat.and_le_left ha
theorem x_binds (h : PI g n m G lk ow nd hp) {j s : Nat} (hj : j < m) : (bd ow s j → F_X1_binds_d (nI j) (nI s) g = some 1) ∧ (¬ bd ow s j → F_X1_binds_d (nI j) (nI s) g = some 0) := by
  obtain ⟨hn, hm, h1, h2, hG, h3, hlk, hb⟩ := h
  obtain ⟨b1, b2, b3, b4, b5, b6⟩ := hb j hj
  have e : F_X1_binds_d (nI j) (nI s) g = if ow j = 0 then some 1 else if ow j &&& s = 0 then some 0 else some 1 := by
    unfold F_X1_binds_d F_X1_binds_d_20
    rw [ck_true (inB_nI (by omega) (by decide)), nI_clamp (by omega), b1, ck_true (inB_nI (by omega) (by decide)), nI_and]
    simp only [nI_z (p16 hn b4), nI_z (and_lt16 (b := s) (p16 hn b4))]
  rw [e]
  unfold bd
  by_cases c1 : ow j = 0
  · simp [c1]
  · by_cases c2 : ow j &&& s = 0
    · simp [c1, c2]
    · simp [c1, c2]
theorem x_piece2 (h : PI g n m G lk ow nd hp) {s : Nat} (hs : s < 2 ^ n) : ((∀ j, j < m → bd ow s j → nd j ≤ pc (hp j &&& s)) → fixN (F_X0_isPiece_58B (nI s) g) FU 0 = some 1) ∧ (¬ (∀ j, j < m → bd ow s j → nd j ≤ pc (hp j &&& s)) → fixN (F_X0_isPiece_58B (nI s) g) FU 0 = some 0) := by
  have hB := fun {j : Nat} (hj : j < m) => x_binds h (s := s) hj
  obtain ⟨hn, hm, h1, h2, hG, h3, hlk, hb⟩ := h
  have step : ∀ i, i < m → ∀ kb, F_X0_isPiece_58B (nI s) g kb (nI i) = (F_X1_binds_d (nI i) (nI s) g).bind fun r_4 => if r_4 = 0 then kb (nI (i + 1)) else if nI (nd i) ≤ nI (pc (hp i &&& s)) then kb (nI (i + 1)) else some 0 := by
    intro i hi kb
    obtain ⟨b1, b2, b3, b4, b5, b6⟩ := hb i hi
    unfold F_X0_isPiece_58B F_X0_isPiece_111
    rw [h2, if_neg (nI_ge hi (by omega)), ck_true (inB_nI (by omega) (by decide)), nI_clamp (by omega), b3, b2, nI_and, j_bitCount (and_lt16 (p16 hn b6)), nI_1]
    simp only [Option.bind_some, lt_def, ck_true (inB_nI (show i < 160 by omega) (by decide))]
  refine fix_chk0 (fun i => nI i) m (fun j => bd ow s j → nd j ≤ pc (hp j &&& s)) _ _ (fun i hi hP kb => ?_) (fun i hi hP kb => ?_) (fun kb => ?_) (by omega)
  · rw [step i hi]
    by_cases c : bd ow s i
    · rw [(hB hi).1 c, Option.bind_some, if_neg (by decide), if_pos (nI_le (hP c) (by have := pc_le (hp i &&& s); omega))]
    · rw [(hB hi).2 c]
      rfl
  · rw [step i hi]
    have c : bd ow s i := Classical.byContradiction (fun c => hP (fun c' => absurd c' c))
    have hlt : ¬ nd i ≤ pc (hp i &&& s) := fun q => hP (fun _ => q)
    obtain ⟨b1, b2, b3, b4, b5, b6⟩ := hb i hi
    rw [(hB hi).1 c, Option.bind_some, if_neg (by decide), if_neg (nI_ge (by omega) (by omega))]
  · unfold F_X0_isPiece_58B
    rw [h2, if_pos (nI_le (Nat.le_refl _) (by omega))]
theorem x_isPiece (h : PI g n m G lk ow nd hp) {s : Nat} (hs : s < 2 ^ n) : (Pc n m G lk ow nd hp s → F_X0_isPiece (nI s) g = some 1) ∧ (¬ Pc n m G lk ow nd hp s → F_X0_isPiece (nI s) g = some 0) := by
  obtain ⟨q1, q2⟩ := x_piece2 h hs
  obtain ⟨hn, hm, h1, h2, hG, h3, hlk, hb⟩ := h
  have h16 := p16 hn hs
  have step : ∀ i, i < n → ∀ kb, F_X0_isPiece_13B (nI s) g kb (nI i) = if s.testBit i = true then (if adn (lk i) s = 0 then kb (nI (i + 1)) else some 0) else kb (nI (i + 1)) := by
    intro i hi kb
    obtain ⟨l1, l2⟩ := hlk i hi
    unfold F_X0_isPiece_13B F_X0_isPiece_50
    rw [h1, if_neg (nI_ge hi (by omega)), x_has h16 (by omega), nI_clamp (by omega), l1, nI_adn _ _ (by have := p16 hn l2; omega), nI_1]
    simp only [Option.bind_some, lt_def, ck_true (inB_nI (show i < 16 by omega) (by decide)), nI_z (p16 hn (adn_lt (b := s) l2))]
    cases s.testBit i <;> simp
  have hl := fix_chk0 (B := F_X0_isPiece_13B (nI s) g) (fun i => nI i) n (fun r => s.testBit r = true → Sub (lk r) s) (fixN (F_X0_isPiece_58B (nI s) g) FU 0) (some 0) (fun i hi hP kb => by
    rw [step i hi]
    by_cases c : s.testBit i = true
    · rw [if_pos c, if_pos (adn_zero.mpr (hP c))]
    · rw [if_neg c]) (fun i hi hP kb => by
    rw [step i hi]
    have c : s.testBit i = true := Classical.byContradiction (fun c => hP (fun c' => absurd c' c))
    rw [if_pos c, if_neg (fun q => hP (fun _ => adn_zero.mp q))]) (fun kb => by
    unfold F_X0_isPiece_13B
    rw [h1, if_pos (nI_le (Nat.le_refl _) (by omega))]) (by omega)
  have e : F_X0_isPiece (nI s) g = if s &&& G = 0 then fixN (F_X0_isPiece_13B (nI s) g) FU (nI 0) else some 0 := by
    unfold F_X0_isPiece
    rw [h3, nI_and]
    simp only [nI_z (and_lt16 (b := G) h16)]
    rfl
  rw [e]
  constructor
  · intro hP
    rw [if_pos hP.2.1, hl.1 hP.2.2.1]
    exact q1 hP.2.2.2
  · intro hP
    by_cases c1 : s &&& G = 0
    · rw [if_pos c1]
      by_cases c2 : ∀ r, r < n → s.testBit r = true → Sub (lk r) s
      · rw [hl.1 c2]
        exact q2 (fun c3 => hP ⟨hs, c1, c2, c3⟩)
      · exact hl.2 c2
    · rw [if_neg c1]
end PIECE
