/-! loops with an invariant -/
theorem fix_inv {σ ρ : Type} {B : (σ → Option ρ) → σ → Option ρ} (I : Nat → σ → Prop) (R : ρ → Prop) (N : Nat) (hs : ∀ i s, i < N → I i s → (∃ s', I (i + 1) s' ∧ ∀ kb, B kb s = kb s') ∨ (∃ r, R r ∧ ∀ kb, B kb s = some r)) (he : ∀ s, I N s → ∃ r, R r ∧ ∀ kb, B kb s = some r) :
    ∀ d i n s, i + d = N → d < n → I i s → ∃ r, R r ∧ fixN B n s = some r := by
  intro d
  induction d with
  | zero =>
    intro i n s hi hn hI
    obtain ⟨n, rfl⟩ : ∃ k, n = k + 1 := ⟨n - 1, by omega⟩
    have e : i = N := by omega
    subst e
    obtain ⟨r, h1, h2⟩ := he s hI
    exact ⟨r, h1, h2 _⟩
  | succ d ih =>
    intro i n s hi hn hI
    obtain ⟨n, rfl⟩ : ∃ k, n = k + 1 := ⟨n - 1, by omega⟩
    rcases hs i s (by omega) hI with ⟨s', h1, h2⟩ | ⟨r, h1, h2⟩
    · obtain ⟨r, h3, h4⟩ := ih (i + 1) n s' (by omega) (by omega) h1
      exact ⟨r, h3, (h2 _).trans h4⟩
    · exact ⟨r, h1, h2 _⟩
theorem fix_to {σ ρ : Type} {B : (σ → Option ρ) → σ → Option ρ} (I : Nat → σ → Prop) (E : σ → Option ρ) (N : Nat) (hs : ∀ i s, i < N → I i s → ∃ s', I (i + 1) s' ∧ ∀ kb, B kb s = kb s') (he : ∀ s, I N s → ∀ kb, B kb s = E s) :
    ∀ d i n s, i + d = N → d < n → I i s → ∃ s', I N s' ∧ fixN B n s = E s' := by
  intro d
  induction d with
  | zero =>
    intro i n s hi hn hI
    obtain ⟨n, rfl⟩ : ∃ k, n = k + 1 := ⟨n - 1, by omega⟩
    have e : i = N := by omega
    subst e
    exact ⟨s, hI, he s hI _⟩
  | succ d ih =>
    intro i n s hi hn hI
    obtain ⟨n, rfl⟩ : ∃ k, n = k + 1 := ⟨n - 1, by omega⟩
    obtain ⟨s', h1, h2⟩ := hs i s (by omega) hI
    obtain ⟨s2, h3, h4⟩ := ih (i + 1) n s' (by omega) (by omega) h1
    exact ⟨s2, h3, (h2 _).trans h4⟩
theorem sub_toInt {a b : Nat} (ha : a < 2 ^ 30) (hb : b < 2 ^ 30) : (nI a - nI b).toInt = (a : Int) - b := pk_sub_toInt ha hb
theorem sub_le0 {a b : Nat} (ha : a < 2 ^ 30) (hb : b < 2 ^ 30) : nI a - nI b ≤ 0 ↔ a ≤ b := by
  rw [Int32.le_iff_toInt_le, sub_toInt ha hb, Int32.toInt_zero]; omega
theorem sub_0lt {a b : Nat} (ha : a < 2 ^ 30) (hb : b < 2 ^ 30) : 0 < nI a - nI b ↔ b < a := by
  rw [Int32.lt_iff_toInt_lt, sub_toInt ha hb, Int32.toInt_zero]; omega
theorem sub_0le {a b : Nat} (ha : a < 2 ^ 30) (hb : b < 2 ^ 30) : 0 ≤ nI a - nI b ↔ b ≤ a := by
  rw [Int32.le_iff_toInt_le, sub_toInt ha hb, Int32.toInt_zero]; omega
theorem nI_ne1 {a : Nat} (ha : a < 65536) : ¬ nI a = -1 := by
  rw [nI_m1]
  intro h
  have h1 := congrArg (fun x => Int32.toInt x) h
  rw [nI_toInt (by omega), show (nI 4294967295).toInt = -1 by decide] at h1
  omega
section SETTLE
variable {g : GM} {n m G : Nat} {lk ow nd hp : Nat → Nat}
/-- the pieces that have all of x and none of o -/
def Pin (n m G : Nat) (lk ow nd hp : Nat → Nat) (x o S : Nat) : Prop := Pc n m G lk ow nd hp S ∧ Sub x S ∧ S &&& o = 0
theorem bd_mono {ow : Nat → Nat} {a b j : Nat} (h : Sub a b) (hb : bd ow a j) : bd ow b j := by
  rcases hb with h1 | h1
  · exact Or.inl h1
  · refine Or.inr (fun h2 => h1 (and_zero.mpr (fun i hi => ?_)))
    have h3 := and_zero.mp h2 i hi
    cases ha : a.testBit i with
    | false => rfl
    | true => rw [h i ha] at h3; cases h3
/-- what a piece that avoids o has of a bond's helpers lies among the open ones -/
theorem open_sub {x o S h : Nat} (hS : S &&& o = 0) : Sub (h &&& S) (adn h o) := by
  intro i hi
  rw [Nat.testBit_and, Bool.and_eq_true] at hi
  rw [adn_bit, hi.1, and_zero.mp hS i hi.2]
  rfl
theorem bond_none {x o S j : Nat} (hS : Pin n m G lk ow nd hp x o S) (hj : j < m) (hb : bd ow x j) (hlt : pc (adn (hp j) o) < nd j) : False := by
  have h1 := hS.1.2.2.2 j hj (bd_mono hS.2.1 hb)
  have h2 := pc_mono (open_sub (x := x) (h := hp j) hS.2.2)
  omega
theorem bond_all {x o S j : Nat} (hpj : hp j < 2 ^ 16) (hS : Pin n m G lk ow nd hp x o S) (hj : j < m) (hb : bd ow x j) (heq : pc (adn (hp j) o) ≤ nd j) : Sub (adn (hp j) o) S := by
  have h1 := hS.1.2.2.2 j hj (bd_mono hS.2.1 hb)
  have h2 := Sub.eq_pc (open_sub (x := x) (h := hp j) hS.2.2) (adn_lt hpj) (by omega)
  intro i hi
  rw [← h2, Nat.testBit_and, Bool.and_eq_true] at hi
  exact hi.2
/-- settled as to the bonds -/
def Bset (m : Nat) (ow nd hp : Nat → Nat) (o x k : Nat) : Prop := ∀ j, j < k → bd ow x j → nd j < pc (adn (hp j) o) ∨ (pc (adn (hp j) o) = nd j ∧ Sub (adn (hp j) o) x)
theorem x_wlh (h : PI g n m G lk ow nd hp) {x o : Nat} (hx : x < 2 ^ n) (ho : o < 2 ^ n) :
    ∃ r, ((r = -1 ∧ ∀ S, ¬ Pin n m G lk ow nd hp x o S) ∨ (∃ y, r = nI y ∧ y < 2 ^ n ∧ Sub x y ∧ (∀ S, Pin n m G lk ow nd hp x o S → Sub y S) ∧ (y = x → Bset m ow nd hp o x m))) ∧ F_X0_withLastHelpers (nI x) (nI o) g = some r := by
  have hB := fun {j s : Nat} (hj : j < m) => x_binds h (s := s) hj
  obtain ⟨hn, hm, h1, h2, hG, h3, hlk, hb⟩ := h
  unfold F_X0_withLastHelpers
  refine fix_inv (I := fun i st => ∃ y, st = (nI y, nI i) ∧ y < 2 ^ n ∧ Sub x y ∧ (∀ S, Pin n m G lk ow nd hp x o S → Sub y S) ∧ (y = x → Bset m ow nd hp o x i)) (R := fun r => (r = -1 ∧ ∀ S, ¬ Pin n m G lk ow nd hp x o S) ∨ (∃ y, r = nI y ∧ y < 2 ^ n ∧ Sub x y ∧ (∀ S, Pin n m G lk ow nd hp x o S → Sub y S) ∧ (y = x → Bset m ow nd hp o x m))) m ?_ ?_ m 0 FU (nI x, nI 0) (by omega) (by show m < 70000; omega) ⟨x, rfl, hx, Sub.rf x, fun S hS => hS.2.1, fun _ j hj => by omega⟩
  · rintro i st hi ⟨y, rfl, hy, hxy, hS, hset⟩
    obtain ⟨b1, b2, b3, b4, b5, b6⟩ := hb i hi
    have hp16 := p16 hn b6
    have ho16 := p16 hn (adn_lt (b := o) b6)
    have hpc := pc_le (adn (hp i) o)
    have step : ∀ kb, F_X0_withLastHelpers_5B (nI o) g kb (nI y, nI i) = if nd i < pc (adn (hp i) o) then kb (nI y, nI (i + 1)) else (F_X1_binds_d (nI i) (nI y) g).bind fun r_5 => if r_5 = 0 then kb (nI y, nI (i + 1)) else if nd i ≤ pc (adn (hp i) o) then kb (nI (y ||| adn (hp i) o), nI (i + 1)) else some (-1) := by
      intro kb
      unfold F_X0_withLastHelpers_5B F_X0_withLastHelpers_81
      dsimp only
      rw [h2, if_neg (nI_ge hi (by omega)), ck_true (inB_nI (by omega) (by decide)), nI_clamp (by omega), b3, b2, nI_adn _ _ (by omega), nI_1]
      simp only [lt_def]
      rw [j_bitCount ho16]
      simp only [Option.bind_some, ck_true (inB_nI (show i < 160 by omega) (by decide)), sub_0lt (show pc (adn (hp i) o) < 2 ^ 30 by omega) (show nd i < 2 ^ 30 by omega), sub_0le (show pc (adn (hp i) o) < 2 ^ 30 by omega) (show nd i < 2 ^ 30 by omega), nI_or]
    by_cases c1 : nd i < pc (adn (hp i) o)
    · refine Or.inl ⟨_, ⟨y, rfl, hy, hxy, hS, fun e j hj hbj => ?_⟩, fun kb => by rw [step, if_pos c1]⟩
      by_cases ej : j = i
      · subst ej; exact Or.inl c1
      · exact hset e j (by omega) hbj
    · by_cases c2 : bd ow y i
      · by_cases c3 : nd i ≤ pc (adn (hp i) o)
        · refine Or.inl ⟨_, ⟨y ||| adn (hp i) o, rfl, or_lt hy (adn_lt b6), hxy.tr Sub.orl, fun S hSS => Sub.or (hS S hSS) (bond_all (x := y) (p16 hn b6) ⟨hSS.1, hS S hSS, hSS.2.2⟩ hi c2 (by omega)), fun e j hj hbj => ?_⟩, fun kb => by rw [step, if_neg c1, (hB hi).1 c2, Option.bind_some, if_neg (by decide), if_pos c3]⟩
          have hyx : y = x := (Sub.antisymm (fun i hi => by rw [← e]; exact Sub.orl i hi) hxy)
          by_cases ej : j = i
          · subst ej
            exact Or.inr ⟨by omega, fun k hk => by rw [← e]; exact Sub.orr k hk⟩
          · exact hset hyx j (by omega) hbj
        · refine Or.inr ⟨-1, Or.inl ⟨rfl, fun S hSS => bond_none (x := y) ⟨hSS.1, hS S hSS, hSS.2.2⟩ hi c2 (by omega)⟩, fun kb => by rw [step, if_neg c1, (hB hi).1 c2, Option.bind_some, if_neg (by decide), if_neg c3]⟩
      · refine Or.inl ⟨_, ⟨y, rfl, hy, hxy, hS, fun e j hj hbj => ?_⟩, fun kb => by rw [step, if_neg c1, (hB hi).2 c2]; rfl⟩
        by_cases ej : j = i
        · subst ej; subst e; exact absurd hbj c2
        · exact hset e j (by omega) hbj
  · rintro st ⟨y, rfl, hy, hxy, hS, hset⟩
    refine ⟨nI y, Or.inr ⟨y, rfl, hy, hxy, hS, hset⟩, fun kb => ?_⟩
    unfold F_X0_withLastHelpers_5B
    dsimp only
    rw [h2, if_pos (nI_le (Nat.le_refl _) (by omega))]
end SETTLE
