/-! isAhead, and the order of pieces -/
theorem low_bit : ∀ d : Nat, ¬ d = 0 → ∃ i q, d = 2 ^ i * (2 * q + 1) := by
  intro d
  induction d using Nat.strongRecOn with
  | _ d ih =>
    intro h0
    by_cases c : d % 2 = 1
    · exact ⟨0, d / 2, by rw [Nat.pow_zero]; omega⟩
    · obtain ⟨i, q, h⟩ := ih (d / 2) (by omega) (by omega)
      refine ⟨i + 1, q, ?_⟩
      rw [Nat.pow_succ, Nat.mul_comm (2 ^ i) 2, Nat.mul_assoc, ← h]
      omega
theorem low_test (i q j : Nat) : (2 ^ i * (2 * q + 1)).testBit j = if j < i then false else (2 * q + 1).testBit (j - i) := by
  have h := Nat.testBit_two_pow_mul_add (i := i) (2 * q + 1) (b := 0) (Nat.two_pow_pos i) j
  rw [Nat.add_zero] at h
  rw [h]
  split <;> simp
theorem low_pred (i q j : Nat) : (2 ^ i * (2 * q + 1) - 1).testBit j = if j < i then true else (2 * q).testBit (j - i) := by
  have hp := Nat.two_pow_pos i
  have e : 2 ^ i * (2 * q + 1) - 1 = 2 ^ i * (2 * q) + (2 ^ i - 1) := by
    rw [Nat.mul_add, Nat.mul_one]; omega
  rw [e, Nat.testBit_two_pow_mul_add (i := i) (2 * q) (b := 2 ^ i - 1) (by omega) j]
  split
  · rw [Nat.testBit_two_pow_sub_one]; simpa
  · rfl
theorem low_adn (i q : Nat) : adn (2 ^ i * (2 * q + 1)) (2 ^ i * (2 * q + 1) - 1) = 2 ^ i := by
  apply Nat.eq_of_testBit_eq
  intro j
  rw [adn_bit, low_test, low_pred, two_bit]
  by_cases c : j < i
  · simp [c]; omega
  · simp only [c, if_false]
    by_cases e : i = j
    · subst e
      simp
    · obtain ⟨k, hk⟩ : ∃ k, j - i = k + 1 := ⟨j - i - 1, by omega⟩
      rw [hk, Nat.testBit_succ, Nat.testBit_succ, show (2 * q + 1) / 2 = q by omega, show 2 * q / 2 = q by omega]
      simp [e]
theorem neg_adn {d : Nat} (h0 : ¬ d = 0) (hd : d < 2 ^ 31) : nI d &&& (-(nI d)) = nI (adn d (d - 1)) := by
  have e : -(nI d) = nI (d - 1) ^^^ (-1) := by
    obtain ⟨k, rfl⟩ : ∃ k, d = k + 1 := ⟨d - 1, by omega⟩
    rw [Nat.add_sub_cancel]
    apply Int32.toBitVec_inj.mp
    show -(BitVec.ofNat 32 (k + 1)) = BitVec.ofNat 32 k ^^^ (-1#32)
    show _ = BitVec.ofNat 32 k ^^^ BitVec.allOnes 32
    rw [BitVec.xor_allOnes, BitVec.ofNat_add, BitVec.neg_add, BitVec.neg_eq_not_add, BitVec.add_sub_cancel]
  rw [e, nI_adn _ _ (by omega)]
theorem m_isAhead {a b : Nat} (ha : a < 65536) (hb : b < 65536) : (Ah a b → F_X7_isAhead (nI a) (nI b) = some 1) ∧ (¬ Ah a b → F_X7_isAhead (nI a) (nI b) = some 0) := by
  have hx : a ^^^ b < 65536 := Nat.xor_lt_two_pow (n := 16) ha hb
  unfold F_X7_isAhead F_X7_isAhead_21
  rw [lt_def, nI_xor]
  by_cases c : a ^^^ b = 0
  · rw [if_pos ((nI_z hx).mpr c)]
    have hab : ∀ i, a.testBit i = b.testBit i := fun i => by
      have := congrArg (fun x => x.testBit i) c
      simp only [Nat.testBit_xor, Nat.zero_testBit] at this
      revert this
      cases a.testBit i <;> cases b.testBit i <;> decide
    refine ⟨fun h => ?_, fun _ => rfl⟩
    obtain ⟨i, h1, h2, _⟩ := h
    rw [hab i, h2] at h1
    cases h1
  · rw [if_neg (fun q => c ((nI_z hx).mp q)), nI_and]
    obtain ⟨i, q, hd⟩ := low_bit _ c
    have e2 : nI (a &&& (a ^^^ b)) &&& (-(nI (a ^^^ b))) = nI (a &&& 2 ^ i) := by
      rw [← nI_and, Int32.and_assoc, neg_adn c (by omega)]
      rw [hd, low_adn, nI_and]
    rw [e2]
    have hlow : ∀ j, j < i → a.testBit j = b.testBit j := by
      intro j hj
      have : (a ^^^ b).testBit j = false := by rw [hd, low_test, if_pos hj]
      rw [Nat.testBit_xor] at this
      revert this
      cases a.testBit j <;> cases b.testBit j <;> decide
    have hi : ¬ a.testBit i = b.testBit i := by
      have : (a ^^^ b).testBit i = true := by rw [hd, low_test, if_neg (by omega), Nat.sub_self]; simp
      rw [Nat.testBit_xor] at this
      revert this
      cases a.testBit i <;> cases b.testBit i <;> decide
    have hz : nI (a &&& 2 ^ i) = 0 ↔ a.testBit i = false := by
      rw [nI_z (and_lt16 ha)]
      constructor
      · intro h
        cases hb2 : a.testBit i with
        | false => rfl
        | true =>
          have := and_zero.mp h i hb2
          rw [two_bit] at this
          simp at this
      · intro h
        exact and_zero.mpr (fun j hj => by
          rw [two_bit]
          simp only [decide_eq_false_iff_not]
          intro q
          subst q
          rw [h] at hj
          cases hj)
    constructor
    · rintro ⟨k, h1, h2, h3⟩
      have hk : k = i := by
        rcases Nat.lt_trichotomy k i with q | q | q
        · rw [hlow k q, h2] at h1; cases h1
        · exact q
        · exact absurd (h3 i q) hi
      subst hk
      rw [if_neg (fun q => by rw [hz.mp q] at h1; cases h1)]
    · intro h
      cases hai : a.testBit i with
      | false => rw [if_pos (hz.mpr hai)]
      | true =>
        refine absurd ⟨i, hai, ?_, hlow⟩ h
        cases hbi : b.testBit i with
        | false => rfl
        | true => exact absurd (hai.trans hbi.symm) hi
theorem Ah.tr {a b c : Nat} (h1 : Ah a b) (h2 : Ah b c) : Ah a c := by
  obtain ⟨i, i1, i2, i3⟩ := h1
  obtain ⟨j, j1, j2, j3⟩ := h2
  rcases Nat.lt_trichotomy i j with q | q | q
  · exact ⟨i, i1, by rw [← j3 i q]; exact i2, fun k hk => (i3 k hk).trans (j3 k (by omega))⟩
  · subst q; rw [i2] at j1; cases j1
  · exact ⟨j, by rw [i3 j q]; exact j1, j2, fun k hk => (i3 k (by omega)).trans (j3 k hk)⟩
theorem Ah.irr {a : Nat} (h : Ah a a) : False := by
  obtain ⟨i, i1, i2, _⟩ := h
  rw [i2] at i1
  cases i1
theorem Ah.tot {a b : Nat} (h : ¬ a = b) : Ah a b ∨ Ah b a := by
  have c : ¬ a ^^^ b = 0 := by
    intro c
    apply h
    apply Nat.eq_of_testBit_eq
    intro i
    have := congrArg (fun x => x.testBit i) c
    simp only [Nat.testBit_xor, Nat.zero_testBit] at this
    revert this
    cases a.testBit i <;> cases b.testBit i <;> decide
  obtain ⟨i, q, hd⟩ := low_bit _ c
  have hlow : ∀ j, j < i → a.testBit j = b.testBit j := by
    intro j hj
    have : (a ^^^ b).testBit j = false := by rw [hd, low_test, if_pos hj]
    rw [Nat.testBit_xor] at this
    revert this
    cases a.testBit j <;> cases b.testBit j <;> decide
  have hi : (a ^^^ b).testBit i = true := by rw [hd, low_test, if_neg (by omega), Nat.sub_self]; simp
  rw [Nat.testBit_xor] at hi
  cases ha : a.testBit i with
  | true =>
    rw [ha] at hi
    exact Or.inl ⟨i, ha, by simpa using hi, hlow⟩
  | false =>
    rw [ha] at hi
    exact Or.inr ⟨i, by simpa using hi, ha, fun j hj => (hlow j hj).symm⟩
/-- S is better than S' -/
def Bt (K S S' : Nat) : Prop := chg K S < chg K S' ∨ (chg K S = chg K S' ∧ (pc S < pc S' ∨ (pc S = pc S' ∧ Ah S S')))
theorem Bt.tr {K a b c : Nat} (h1 : Bt K a b) (h2 : Bt K b c) : Bt K a c := by
  unfold Bt at *
  rcases h1 with h1 | ⟨h1, h1' | ⟨h1', h1''⟩⟩ <;> rcases h2 with h2 | ⟨h2, h2' | ⟨h2', h2''⟩⟩
  · exact Or.inl (by omega)
  · exact Or.inl (by omega)
  · exact Or.inl (by omega)
  · exact Or.inl (by omega)
  · exact Or.inr ⟨by omega, Or.inl (by omega)⟩
  · exact Or.inr ⟨by omega, Or.inl (by omega)⟩
  · exact Or.inl (by omega)
  · exact Or.inr ⟨by omega, Or.inl (by omega)⟩
  · exact Or.inr ⟨by omega, Or.inr ⟨by omega, h1''.tr h2''⟩⟩
theorem Bt.irr {K a : Nat} (h : Bt K a a) : False := by
  rcases h with h | ⟨_, h | ⟨_, h⟩⟩
  · omega
  · omega
  · exact h.irr
theorem Bt.tot {K a b : Nat} (h : ¬ a = b) : Bt K a b ∨ Bt K b a := by
  unfold Bt
  rcases Nat.lt_trichotomy (chg K a) (chg K b) with q | q | q
  · exact Or.inl (Or.inl q)
  · rcases Nat.lt_trichotomy (pc a) (pc b) with r | r | r
    · exact Or.inl (Or.inr ⟨q, Or.inl r⟩)
    · rcases Ah.tot h with s | s
      · exact Or.inl (Or.inr ⟨q, Or.inr ⟨r, s⟩⟩)
      · exact Or.inr (Or.inr ⟨q.symm, Or.inr ⟨r.symm, s⟩⟩)
    · exact Or.inr (Or.inr ⟨q.symm, Or.inl r⟩)
  · exact Or.inr (Or.inl q)
theorem chg0 (S : Nat) : chg 0 S = pc S := by
  unfold chg
  have e1 : adn S 0 = S := by simp [adn]
  have e2 : adn 0 S = 0 := by simp [adn]
  rw [e1, e2]
  rfl
theorem Bt0 (S S' : Nat) : Bt 0 S S' ↔ pc S < pc S' ∨ (pc S = pc S' ∧ Ah S S') := by
  unfold Bt
  rw [chg0, chg0]
  constructor
  · rintro (h | ⟨h, h' | h'⟩)
    · exact Or.inl h
    · exact Or.inl h'
    · exact Or.inr h'
  · rintro (h | h)
    · exact Or.inl h
    · exact Or.inr ⟨h.1, Or.inr h⟩
/-- S is the best of those below i that have P -/
def Bi (P : Nat → Prop) (K i S : Nat) : Prop := S < i ∧ P S ∧ ∀ S', S' < i → P S' → ¬ S' = S → Bt K S S'
theorem Bi.keep {P : Nat → Prop} {K i S : Nat} (h : Bi P K i S) (hi : ¬ P i ∨ Bt K S i) : Bi P K (i + 1) S := by
  refine ⟨by have := h.1; omega, h.2.1, fun S' h1 h2 h3 => ?_⟩
  by_cases e : S' = i
  · subst e
    rcases hi with q | q
    · exact absurd h2 q
    · exact q
  · exact h.2.2 S' (by omega) h2 h3
theorem Bi.new {P : Nat → Prop} {K i S : Nat} (h : Bi P K i S) (hP : P i) (hi : Bt K i S) : Bi P K (i + 1) i := by
  refine ⟨by omega, hP, fun S' h1 h2 h3 => ?_⟩
  by_cases e : S' = S
  · subst e; exact hi
  · exact hi.tr (h.2.2 S' (by omega) h2 e)
theorem Bi.uniq {P : Nat → Prop} {K i S T : Nat} (h1 : Bi P K i S) (h2 : Bi P K i T) : S = T := by
  by_cases e : S = T
  · exact e
  · exact (((h1.2.2 T h2.1 h2.2.1 (fun q => e q.symm)).tr (h2.2.2 S h1.1 h1.2.1 e)).irr).elim
