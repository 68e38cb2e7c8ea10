/-! lacking, isWithinLimits -/
theorem j_max {a b : Nat} (ha : a < 2 ^ 31) (hb : b < 2 ^ 31) : F_J9_max_7cf53 (nI a) (nI b) = some (nI (max a b)) := by
  unfold F_J9_max_7cf53
  simp only [nI_ltI ha hb]
  by_cases c : a < b
  · rw [if_pos c, Nat.max_eq_right (by omega)]
  · rw [if_neg c, Nat.max_eq_left (by omega)]
theorem j_min {a b : Nat} (ha : a < 2 ^ 31) (hb : b < 2 ^ 31) : F_J9_min_7cf53 (nI a) (nI b) = some (nI (min a b)) := by
  unfold F_J9_min_7cf53
  simp only [nI_ltI hb ha]
  by_cases c : b < a
  · rw [if_pos c, Nat.min_eq_right (by omega)]
  · rw [if_neg c, Nat.min_eq_left (by omega)]
theorem pc_split (a h : Nat) : pc a = pc (a &&& h) + pc (adn a h) := by
  have e : a = (a &&& h) ||| adn a h := by
    apply Nat.eq_of_testBit_eq
    intro i
    rw [Nat.testBit_or, Nat.testBit_and, adn_bit]
    cases a.testBit i <;> cases h.testBit i <;> rfl
  have d : (a &&& h) &&& adn a h = 0 := and_zero.mpr (fun i hi => by
    rw [Nat.testBit_and, Bool.and_eq_true] at hi
    rw [adn_bit, hi.2]
    simp)
  have := pc_disj d
  rw [← e] at this
  exact this
theorem pc_part {a b : Nat} (h : Sub a b) : pc a + pc (adn b a) = pc b := by
  rw [pc_split b a]
  congr 1
  congr 1
  apply Sub.antisymm
  · intro i hi
    rw [Nat.testBit_and, hi, h i hi]
    rfl
  · intro i hi
    rw [Nat.testBit_and, Bool.and_eq_true] at hi
    exact hi.2
section WITHIN
variable {g : GM} {n m G : Nat} {lk ow nd hp : Nat → Nat}
theorem bond_lack {x o S h j : Nat} (hS : Pin n m G lk ow nd hp x o S) (hj : j < m) (hb : bd ow x j) : nd j - pc (adn (hp j) o &&& h) ≤ pc (adn S h &&& adn (adn (hp j) o) h) := by
  have h1 := hS.1.2.2.2 j hj (bd_mono hS.2.1 hb)
  have h2 := pc_split (hp j &&& S) h
  have hsub := open_sub (x := x) (h := hp j) hS.2.2
  have h3 : pc (hp j &&& S &&& h) ≤ pc (adn (hp j) o &&& h) := pc_mono (fun i hi => by
    rw [Nat.testBit_and, Bool.and_eq_true] at hi ⊢
    exact ⟨hsub i hi.1, hi.2⟩)
  have h4 : pc (adn (hp j &&& S) h) ≤ pc (adn S h &&& adn (adn (hp j) o) h) := pc_mono (fun i hi => by
    rw [adn_bit, Bool.and_eq_true] at hi
    have h5 := hsub i hi.1
    rw [Nat.testBit_and, Bool.and_eq_true] at hi
    rw [Nat.testBit_and, adn_bit, adn_bit, hi.1.2, hi.2, h5]
    rfl)
  omega
theorem x_lacking (hP : PI g n m G lk ow nd hp) {x o h : Nat} (hx : x < 2 ^ n) (ho : o < 2 ^ n) (hh : h < 2 ^ n) :
    ∃ r, (∃ L, r = nI L ∧ L ≤ 3000 ∧ ∀ S, Pin n m G lk ow nd hp x o S → L ≤ pc (adn S h)) ∧ F_X0_lacking (nI x) (nI o) (nI h) g = some r := by
  have hB := fun {j s : Nat} (hj : j < m) => x_binds hP (s := s) hj
  obtain ⟨hn, hm, h1, h2, hG, h3, hlk, hb⟩ := hP
  unfold F_X0_lacking
  refine fix_inv (I := fun i st => ∃ mo su sd, st = (nI mo, nI su, nI sd, nI i) ∧ mo ≤ 16 ∧ su ≤ 16 * i ∧ sd < 2 ^ n ∧ ∀ S, Pin n m G lk ow nd hp x o S → mo ≤ pc (adn S h) ∧ su ≤ pc (adn S h &&& sd)) (R := fun r => ∃ L, r = nI L ∧ L ≤ 3000 ∧ ∀ S, Pin n m G lk ow nd hp x o S → L ≤ pc (adn S h)) m ?_ ?_ m 0 FU (nI 0, nI 0, nI 0, nI 0) (by omega) (by show m < 70000; omega) ⟨0, 0, 0, rfl, by omega, by omega, Nat.two_pow_pos n, fun S hS => ⟨Nat.zero_le _, Nat.zero_le _⟩⟩
  · rintro i st hi ⟨mo, su, sd, rfl, hmo, hsu, hsd, hS⟩
    obtain ⟨b1, b2, b3, b4, b5, b6⟩ := hb i hi
    have ho16 := adn_lt (b := o) b6
    have hp16 := p16 hn ho16
    have hpc := pc_le (adn (hp i) o &&& h)
    have step : ∀ kb, F_X0_lacking_12B (nI x) (nI o) (nI h) g kb (nI mo, nI su, nI sd, nI i) = if nd i ≤ pc (adn (hp i) o &&& h) then kb (nI mo, nI su, nI sd, nI (i + 1)) else (F_X1_binds_d (nI i) (nI x) g).bind fun r_6 => if r_6 = 0 then kb (nI mo, nI su, nI sd, nI (i + 1)) else if adn (adn (hp i) o) h &&& sd = 0 then kb (nI (max mo (nd i - pc (adn (hp i) o &&& h))), nI (su + (nd i - pc (adn (hp i) o &&& h))), nI (sd ||| adn (adn (hp i) o) h), nI (i + 1)) else kb (nI (max mo (nd i - pc (adn (hp i) o &&& h))), nI su, nI sd, nI (i + 1)) := by
      intro kb
      unfold F_X0_lacking_12B F_X0_lacking_117
      dsimp only
      rw [h2, if_neg (nI_ge hi (by omega)), ck_true (inB_nI (by omega) (by decide)), nI_clamp (by omega), b3, b2, nI_adn _ _ (by have := p16 hn b6; omega), nI_1]
      simp only [lt_def]
      rw [nI_and, j_bitCount (and_lt16 hp16), nI_adn _ _ (by omega)]
      simp only [Option.bind_some, ck_true (inB_nI (show i < 160 by omega) (by decide)), sub_le0 (show nd i < 2 ^ 30 by omega) (show pc (adn (hp i) o &&& h) < 2 ^ 30 by omega), nI_or, nI_and, nI_z (and_lt16 (b := sd) (p16 hn (adn_lt (b := h) ho16)))]
      by_cases c : nd i ≤ pc (adn (hp i) o &&& h)
      · simp [c]
      · rw [nI_sub (by omega), j_max (by omega) (by omega)]
        simp only [if_neg c, nI_add, Option.bind_some]
    by_cases c1 : nd i ≤ pc (adn (hp i) o &&& h)
    · exact Or.inl ⟨_, ⟨mo, su, sd, rfl, hmo, by omega, hsd, hS⟩, fun kb => by rw [step, if_pos c1]⟩
    · by_cases c2 : bd ow x i
      · have hl : ∀ S, Pin n m G lk ow nd hp x o S → nd i - pc (adn (hp i) o &&& h) ≤ pc (adn S h &&& adn (adn (hp i) o) h) := fun S hSS => bond_lack hSS hi c2
        have hl2 : ∀ S, Pin n m G lk ow nd hp x o S → nd i - pc (adn (hp i) o &&& h) ≤ pc (adn S h) := fun S hSS => Nat.le_trans (hl S hSS) (pc_mono (fun k hk => by rw [Nat.testBit_and, Bool.and_eq_true] at hk; exact hk.1))
        by_cases c3 : adn (adn (hp i) o) h &&& sd = 0
        · refine Or.inl ⟨_, ⟨_, _, _, rfl, ?_, ?_, or_lt hsd (adn_lt ho16), fun S hSS => ⟨?_, ?_⟩⟩, fun kb => by rw [step, if_neg c1, (hB hi).1 c2, Option.bind_some, if_neg (by decide), if_pos c3]⟩
          · omega
          · omega
          · have := (hS S hSS).1
            have := hl2 S hSS
            omega
          · have e : adn S h &&& (sd ||| adn (adn (hp i) o) h) = (adn S h &&& sd) ||| (adn S h &&& adn (adn (hp i) o) h) := by
              apply Nat.eq_of_testBit_eq
              intro k
              simp only [Nat.testBit_and, Nat.testBit_or]
              cases (adn S h).testBit k <;> simp
            have d : (adn S h &&& sd) &&& (adn S h &&& adn (adn (hp i) o) h) = 0 := and_zero.mpr (fun k hk => by
              rw [Nat.testBit_and, Bool.and_eq_true] at hk
              rw [Nat.testBit_and]
              cases hq : (adn (adn (hp i) o) h).testBit k with
              | false => simp
              | true =>
                have := and_zero.mp c3 k hq
                rw [this] at hk
                exact absurd hk.2 (by decide))
            rw [e, pc_disj d]
            have := (hS S hSS).2
            have := hl S hSS
            omega
        · refine Or.inl ⟨_, ⟨_, _, _, rfl, ?_, ?_, hsd, fun S hSS => ⟨?_, (hS S hSS).2⟩⟩, fun kb => by rw [step, if_neg c1, (hB hi).1 c2, Option.bind_some, if_neg (by decide), if_neg c3]⟩
          · omega
          · omega
          · have := (hS S hSS).1
            have := hl2 S hSS
            omega
      · exact Or.inl ⟨_, ⟨mo, su, sd, rfl, hmo, by omega, hsd, hS⟩, fun kb => by rw [step, if_neg c1, (hB hi).2 c2]; rfl⟩
  · rintro st ⟨mo, su, sd, rfl, hmo, hsu, hsd, hS⟩
    refine ⟨nI (max mo su), ⟨_, rfl, by omega, fun S hSS => ?_⟩, fun kb => ?_⟩
    · have := (hS S hSS).1
      have h5 := (hS S hSS).2
      have h6 : pc (adn S h &&& sd) ≤ pc (adn S h) := pc_mono (fun k hk => by rw [Nat.testBit_and, Bool.and_eq_true] at hk; exact hk.1)
      omega
    · unfold F_X0_lacking_12B
      dsimp only
      rw [h2, if_pos (nI_le (Nat.le_refl _) (by omega)), j_max (by omega) (by omega)]
      rfl
/-- by how much S differs from the rows kept -/
def chg (K S : Nat) : Nat := pc (adn S K) + pc (adn K S)
def LM (g : GM) (n K CM RM : Nat) : Prop := K < 2 ^ n ∧ CM ≤ 100 ∧ RM ≤ 100 ∧ gi g 42 3 = nI K ∧ gi g 42 4 = nI CM ∧ gi g 42 5 = nI RM
theorem x_within (hP : PI g n m G lk ow nd hp) {K CM RM x o : Nat} (hL : LM g n K CM RM) (hx : x < 2 ^ n) (ho : o < 2 ^ n) :
    ∃ r, ((r = 0 ∧ ∀ S, Pin n m G lk ow nd hp x o S → ¬ (pc S ≤ RM ∧ chg K S ≤ CM)) ∨ (r = 1 ∧ pc x ≤ RM ∧ pc (adn x K) + pc (K &&& o) ≤ CM)) ∧ F_X0_isWithinLimits (nI x) (nI o) g = some r := by
  obtain ⟨hK, hCM, hRM, k3, k4, k5⟩ := hL
  obtain ⟨_, ⟨L1, rfl, l1, l1S⟩, e1⟩ := x_lacking hP (h := x) hx ho hx
  obtain ⟨_, ⟨L2, rfl, l2, l2S⟩, e2⟩ := x_lacking hP (h := x ||| K) hx ho (or_lt hx hK)
  have hn := hP.1
  have p1 := pc_le (adn x K)
  have p2 := pc_le (K &&& o)
  have p3 := pc_le x
  have e : F_X0_isWithinLimits (nI x) (nI o) g = if RM < pc x + L1 then some 0 else if CM < pc (adn x K) + pc (K &&& o) + L2 then some 0 else some 1 := by
    unfold F_X0_isWithinLimits F_X0_isWithinLimits_66
    rw [k3, k4, k5, nI_adn _ _ (by have := p16 hn hx; omega), nI_and, j_bitCount (p16 hn (adn_lt hx)), j_bitCount (and_lt16 (p16 hn hK)), j_bitCount (p16 hn hx), e1, nI_or, e2]
    simp only [Option.bind_some, lt_def, nI_add, nI_ltI (show RM < 2 ^ 31 by omega) (show pc x + L1 < 2 ^ 31 by omega), nI_ltI (show CM < 2 ^ 31 by omega) (show pc (adn x K) + pc (K &&& o) + L2 < 2 ^ 31 by omega)]
  rw [e]
  by_cases c1 : RM < pc x + L1
  · refine ⟨0, Or.inl ⟨rfl, fun S hS hc => ?_⟩, by rw [if_pos c1]⟩
    have := l1S S hS
    have := pc_part hS.2.1
    omega
  · by_cases c2 : CM < pc (adn x K) + pc (K &&& o) + L2
    · refine ⟨0, Or.inl ⟨rfl, fun S hS hc => ?_⟩, by rw [if_neg c1, if_pos c2]⟩
      have h1 := l2S S hS
      have h2 : pc (adn x K) + pc (adn S (x ||| K)) = pc (adn S K) := by
        have e3 : adn S K = adn x K ||| adn S (x ||| K) := by
          apply Nat.eq_of_testBit_eq
          intro i
          simp only [adn_bit, Nat.testBit_or]
          have := hS.2.1 i
          cases hxi : x.testBit i with
          | true => simp [this hxi]
          | false => simp
        rw [e3, pc_disj (and_zero.mpr (fun i hi => by
          rw [adn_bit, Bool.and_eq_true] at hi
          rw [adn_bit, Nat.testBit_or, hi.1]
          simp))]
      have h3 : pc (K &&& o) ≤ pc (adn K S) := pc_mono (fun i hi => by
        rw [Nat.testBit_and, Bool.and_eq_true] at hi
        rw [adn_bit, hi.1]
        cases hSi : S.testBit i with
        | false => rfl
        | true =>
          have := and_zero.mp hS.2.2 i hSi
          rw [this] at hi
          exact absurd hi.2 (by decide))
      unfold chg at hc
      omega
    · exact ⟨1, Or.inr ⟨rfl, by omega, by omega⟩, by rw [if_neg c1, if_neg c2]⟩
end WITHIN
