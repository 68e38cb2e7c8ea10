/-! the reference's isPiece -/
def MP (g : GM) (n W G wk : Nat) (dr ct : Nat → Nat) (lw : Nat → Bool) (nd : Nat → Nat) (as : Nat → Nat → Nat) : Prop :=
  n ≤ 16 ∧ W ≤ 10 ∧ (∃ b, b < 2 ∧ gi g 0 23 = nI b ∧ gi g 13 b = nI n) ∧ (wk < 2 ∧ gi g 0 37 = nI wk ∧ gi g 14 wk = nI W) ∧ (G < 2 ^ n ∧ gi g 0 49 = nI G) ∧ (∀ r, r < n → gi g 28 r = nI (dr r) ∧ dr r < 2 ^ n) ∧
  ∀ k, k < W → gi g 16 (10 * wk + k) = nI (nd k) ∧ nd k ≤ 16 ∧ (lw k = true → ¬ gi g 17 (10 * wk + k) < 0) ∧ (lw k = false → gi g 17 (10 * wk + k) < 0) ∧ gi g 29 k = nI (ct k) ∧ ct k < 2 ^ n ∧ ∀ r, r < n → gi g 30 (16 * k + r) = nI (as k r) ∧ as k r < 2 ^ n
def Pcm (n W G : Nat) (dr ct : Nat → Nat) (lw : Nat → Bool) (nd : Nat → Nat) (as : Nat → Nat → Nat) (s : Nat) : Prop :=
  s < 2 ^ n ∧ s &&& G = 0 ∧ (∀ r, r < n → s.testBit r = true → Sub (dr r) s) ∧ ∀ k, k < W → (lw k = false → nd k ≤ pc (ct k &&& s)) ∧ (lw k = true → ∀ r, r < n → s.testBit r = true → Sub (as k r) s ∨ nd k ≤ pc (as k r &&& s))
theorem not_lt0 {x : Int32} : ¬ x < 0 ↔ 0 ≤ x := by
  rw [Int32.lt_iff_toInt_lt, Int32.le_iff_toInt_le]; omega
theorem nI_mul (a b : Nat) : nI a * nI b = nI (a * b) := (Int32.ofNat_mul a b).symm
theorem bit1 {s r : Nat} (hs : s < 65536) (hr : r < 31) : (nI s >>> (nI r &&& 31)) &&& 1 = 1 ↔ s.testBit r = true := by
  rw [nI_bit (by omega) hr, bitv]
  cases s.testBit r
  · simp; decide
  · simp; decide
theorem bit0 {s r : Nat} (hs : s < 65536) (hr : r < 31) : (nI s >>> (nI r &&& 31)) &&& 1 = 0 ↔ s.testBit r = false := by
  rw [nI_bit (by omega) hr, bitv]
  cases s.testBit r
  · simp; decide
  · simp; decide
section MPIECE
variable {g : GM} {n W G wk : Nat} {dr ct : Nat → Nat} {lw : Nat → Bool} {nd : Nat → Nat} {as : Nat → Nat → Nat}
theorem m_law (h : MP g n W G wk dr ct lw nd as) {s k : Nat} (hs : s < 2 ^ n) (hk : k < W) (kb : Int32 → Option Int32) :
    ((lw k = true → ∀ r, r < n → s.testBit r = true → Sub (as k r) s ∨ nd k ≤ pc (as k r &&& s)) → F_X7_isPiece_112 kb (nI s) (nI k) (nI (10 * wk + k)) g = kb (nI (k + 1))) ∧
    (¬ (lw k = true → ∀ r, r < n → s.testBit r = true → Sub (as k r) s ∨ nd k ≤ pc (as k r &&& s)) → F_X7_isPiece_112 kb (nI s) (nI k) (nI (10 * wk + k)) g = some 0) := by
  obtain ⟨hn, hW, ⟨b, hb, b1, b2⟩, ⟨w0, w1, w2⟩, ⟨hG, h49⟩, hdr, hall⟩ := h
  obtain ⟨k1, k2, k3, k4, k5, k6, k7⟩ := hall k hk
  have h16 := p16 hn hs
  have i1 : inB (gi g 0 23) 2 = true := by rw [b1]; exact inB_nI hb (by decide)
  have i2 : gi g 13 (gi g 0 23).toNatClampNeg = nI n := by rw [b1, nI_clamp (by omega), b2]
  have i3 : inB (nI (10 * wk + k)) 20 = true := inB_nI (by omega) (by decide)
  have i4 : (nI (10 * wk + k)).toNatClampNeg = 10 * wk + k := nI_clamp (by omega)
  unfold F_X7_isPiece_112
  cases hl : lw k with
  | false =>
    have hneg := k4 hl
    have e : fixN (F_X7_isPiece_115B kb (nI s) (nI k) (nI (10 * wk + k)) g) FU 0 = kb (nI (k + 1)) := by
      show F_X7_isPiece_115B kb (nI s) (nI k) (nI (10 * wk + k)) g _ 0 = _
      unfold F_X7_isPiece_115B F_X7_isPiece_195
      rw [ck_true i1, i2, ck_true i3, i4, if_pos hneg, lt_def, nI_1]
      split <;> rfl
    refine ⟨fun _ => e, fun h => absurd (fun h => by cases h) h⟩
  | true =>
    have hpos := k3 hl
    have step : ∀ i, i < n → ∀ kb2, F_X7_isPiece_115B kb (nI s) (nI k) (nI (10 * wk + k)) g kb2 (nI i) = if s.testBit i = true then (if adn (as k i) s = 0 then kb2 (nI (i + 1)) else if nd k ≤ pc (as k i &&& s) then kb2 (nI (i + 1)) else some 0) else kb2 (nI (i + 1)) := by
      intro i hi kb2
      obtain ⟨a1, a2⟩ := k7 i hi
      have a16 := p16 hn a2
      have e1 : (16 : Int32) * nI k + nI i = nI (16 * k + i) := by rw [show (16 : Int32) = nI 16 from rfl, nI_mul, nI_add]
      have hpc := pc_le (as k i &&& s)
      unfold F_X7_isPiece_115B F_X7_isPiece_189
      rw [ck_true i1, i2, if_neg (nI_ge hi (by omega)), ck_true i3, i4, if_neg hpos, e1, ck_true (inB_nI (by omega) (by decide)), nI_clamp (by omega), a1, lt_def, nI_adn _ _ (by omega), nI_and, m_bitsOf (by have := and_lt16 (b := s) a16; omega), Option.bind_some, ck_true i3, k1]
      simp only [bit1 h16 (show i < 31 by omega), nI_z (p16 hn (adn_lt (b := s) a2)), nI_leI (show nd k < 2 ^ 31 by omega) (show pc (as k i &&& s) < 2 ^ 31 by omega), lt_def, nI_1]
    have := fix_chk0 (B := F_X7_isPiece_115B kb (nI s) (nI k) (nI (10 * wk + k)) g) (fun i => nI i) n (fun r => s.testBit r = true → Sub (as k r) s ∨ nd k ≤ pc (as k r &&& s)) (kb (nI (k + 1))) (some 0) (fun i hi hP kb2 => by
      rw [step i hi]
      by_cases c : s.testBit i = true
      · rw [if_pos c]
        rcases hP c with q | q
        · rw [if_pos (adn_zero.mpr q)]
        · by_cases c2 : adn (as k i) s = 0
          · rw [if_pos c2]
          · rw [if_neg c2, if_pos q]
      · rw [if_neg c]) (fun i hi hP kb2 => by
      rw [step i hi]
      have c : s.testBit i = true := Classical.byContradiction (fun c => hP (fun c' => absurd c' c))
      rw [if_pos c, if_neg (fun q => hP (fun _ => Or.inl (adn_zero.mp q))), if_neg (fun q => hP (fun _ => Or.inr q))]) (fun kb2 => by
      unfold F_X7_isPiece_115B F_X7_isPiece_195
      rw [ck_true i1, i2, if_pos (nI_le (Nat.le_refl _) (by omega)), lt_def, nI_1]) (by omega)
    exact ⟨fun h => this.1 (h rfl), fun h => this.2 (fun h' => h (fun _ => h'))⟩
theorem m_isPiece (h : MP g n W G wk dr ct lw nd as) {s : Nat} (hs : s < 2 ^ n) :
    (Pcm n W G dr ct lw nd as s → F_X7_isPiece (nI s) g = some 1) ∧ (¬ Pcm n W G dr ct lw nd as s → F_X7_isPiece (nI s) g = some 0) := by
  have hL := fun {k : Nat} (hk : k < W) => m_law h hs hk
  obtain ⟨hn, hW, ⟨b, hb, b1, b2⟩, ⟨w0, w1, w2⟩, ⟨hG, h49⟩, hdr, hall⟩ := h
  have h16 := p16 hn hs
  have i1 : inB (gi g 0 23) 2 = true := by rw [b1]; exact inB_nI hb (by decide)
  have i2 : gi g 13 (gi g 0 23).toNatClampNeg = nI n := by rw [b1, nI_clamp (by omega), b2]
  have j1 : inB (gi g 0 37) 2 = true := by rw [w1]; exact inB_nI w0 (by decide)
  have j2 : gi g 14 (gi g 0 37).toNatClampNeg = nI W := by rw [w1, nI_clamp (by omega), w2]
  have step2 : ∀ i, i < W → ∀ kb, F_X7_isPiece_58B (nI s) g kb (nI i) = if lw i = false ∧ ¬ nd i ≤ pc (ct i &&& s) then some 0 else F_X7_isPiece_112 kb (nI s) (nI i) (nI (10 * wk + i)) g := by
    intro i hi kb
    obtain ⟨k1, k2, k3, k4, k5, k6, k7⟩ := hall i hi
    have c16 := p16 hn k6
    have hpc := pc_le (ct i &&& s)
    have e1 : (10 : Int32) * gi g 0 37 + nI i = nI (10 * wk + i) := by rw [w1, show (10 : Int32) = nI 10 from rfl, nI_mul, nI_add]
    unfold F_X7_isPiece_58B
    rw [ck_true j1, j2, if_neg (nI_ge hi (by omega)), e1, lt_def, ck_true (inB_nI (by omega) (by decide)), ck_true (inB_nI (by omega) (by decide)), nI_clamp (by omega), nI_clamp (by omega), k5, nI_and, m_bitsOf (by have := and_lt16 (b := s) c16; omega), Option.bind_some, ck_true (inB_nI (by omega) (by decide)), k1]
    simp only [nI_leI (show nd i < 2 ^ 31 by omega) (show pc (ct i &&& s) < 2 ^ 31 by omega)]
    cases hl : lw i with
    | true => rw [if_pos (not_lt0.mp (k3 hl))]; simp
    | false =>
      rw [if_neg (fun q => not_lt0.mpr q (k4 hl))]
      by_cases c : nd i ≤ pc (ct i &&& s)
      · simp [c]
      · simp [c]
  have q := fix_chk0 (B := F_X7_isPiece_58B (nI s) g) (fun i => nI i) W (fun k => (lw k = false → nd k ≤ pc (ct k &&& s)) ∧ (lw k = true → ∀ r, r < n → s.testBit r = true → Sub (as k r) s ∨ nd k ≤ pc (as k r &&& s))) (some 1) (some 0) (fun i hi hP kb => by
    rw [step2 i hi, if_neg (fun q => q.2 (hP.1 q.1))]
    exact (hL hi kb).1 hP.2) (fun i hi hP kb => by
    rw [step2 i hi]
    by_cases c : lw i = false ∧ ¬ nd i ≤ pc (ct i &&& s)
    · rw [if_pos c]
    · rw [if_neg c]
      exact (hL hi kb).2 (fun q => hP ⟨fun h1 => Classical.byContradiction (fun h2 => c ⟨h1, h2⟩), q⟩)) (fun kb => by
    unfold F_X7_isPiece_58B
    rw [ck_true j1, j2, if_pos (nI_le (Nat.le_refl _) (by omega))]) (by omega)
  have step : ∀ i, i < n → ∀ kb, F_X7_isPiece_13B (nI s) g kb (nI i) = if s.testBit i = true then (if adn (dr i) s = 0 then kb (nI (i + 1)) else some 0) else kb (nI (i + 1)) := by
    intro i hi kb
    obtain ⟨l1, l2⟩ := hdr i hi
    unfold F_X7_isPiece_13B F_X7_isPiece_50
    rw [ck_true i1, i2, if_neg (nI_ge hi (by omega)), ck_true (inB_nI (by omega) (by decide)), nI_clamp (by omega), l1, nI_adn _ _ (by have := p16 hn l2; omega), nI_1]
    simp only [lt_def, bit1 h16 (show i < 31 by omega), nI_z (p16 hn (adn_lt (b := s) l2))]
  have hl := fix_chk0 (B := F_X7_isPiece_13B (nI s) g) (fun i => nI i) n (fun r => s.testBit r = true → Sub (dr r) s) (fixN (F_X7_isPiece_58B (nI s) g) FU (nI 0)) (some 0) (fun i hi hP kb => by
    rw [step i hi]
    by_cases c : s.testBit i = true
    · rw [if_pos c, if_pos (adn_zero.mpr (hP c))]
    · rw [if_neg c]) (fun i hi hP kb => by
    rw [step i hi]
    have c : s.testBit i = true := Classical.byContradiction (fun c => hP (fun c' => absurd c' c))
    rw [if_pos c, if_neg (fun q => hP (fun _ => adn_zero.mp q))]) (fun kb => by
    unfold F_X7_isPiece_13B
    rw [ck_true i1, i2, if_pos (nI_le (Nat.le_refl _) (by omega))]
    rfl) (by omega)
  have e : F_X7_isPiece (nI s) g = if s &&& G = 0 then fixN (F_X7_isPiece_13B (nI s) g) FU (nI 0) else some 0 := by
    unfold F_X7_isPiece
    rw [h49, nI_and]
    simp only [nI_z (and_lt16 (b := G) h16)]
    rfl
  rw [e]
  constructor
  · intro hP
    rw [if_pos hP.2.1, hl.1 hP.2.2.1]
    exact q.1 hP.2.2.2
  · intro hP
    by_cases c1 : s &&& G = 0
    · rw [if_pos c1]
      by_cases c2 : ∀ r, r < n → s.testBit r = true → Sub (dr r) s
      · rw [hl.1 c2]
        exact q.2 (fun c3 => hP ⟨hs, c1, c2, c3⟩)
      · exact hl.2 c2
    · rw [if_neg c1]
end MPIECE
