/-! settled: some rows with all that they can't do without -/
section SETTLED
variable {g : GM} {n m G : Nat} {lk ow nd hp : Nat → Nat}
theorem Pin.up {x y o S : Nat} (h : Pin n m G lk ow nd hp x o S) (hy : Sub y S) : Pin n m G lk ow nd hp y o S := ⟨h.1, hy, h.2.2⟩
theorem pc_lt {a b : Nat} (h : Sub a b) (hb : b < 2 ^ 16) (hne : ¬ b = a) : pc a < pc b := by
  rcases Nat.lt_or_ge (pc a) (pc b) with q | q
  · exact q
  · exact absurd (h.eq_pc hb q).symm hne
def Lset (n : Nat) (lk : Nat → Nat) (x : Nat) : Prop := ∀ r, r < n → x.testBit r = true → Sub (lk r) x
/-- one pass over the links -/
def lkf (lk : Nat → Nat) (x : Nat) : Nat → Nat
  | 0 => x
  | i + 1 => if (lkf lk x i).testBit i = true then lkf lk x i ||| lk i else lkf lk x i
theorem lkf_ok {x o : Nat} (hx : x < 2 ^ n) (hlk : ∀ r, r < n → lk r < 2 ^ n) : ∀ i, i ≤ n → lkf lk x i < 2 ^ n ∧ Sub x (lkf lk x i) ∧ (∀ S, Pin n m G lk ow nd hp x o S → Sub (lkf lk x i) S) ∧ (lkf lk x i = x → ∀ r, r < i → x.testBit r = true → Sub (lk r) x) := by
  intro i
  induction i with
  | zero => intro _; exact ⟨hx, Sub.rf x, fun S hS => hS.2.1, fun _ r hr => by omega⟩
  | succ i ih =>
    intro hi
    obtain ⟨hy, hxy, hS, hset⟩ := ih (by omega)
    have hi' : i < n := by omega
    have l2 := hlk i hi'
    simp only [lkf]
    generalize hye : lkf lk x i = y at *
    refine ⟨?_, ?_, ?_, ?_⟩
    · split
      · exact or_lt hy l2
      · exact hy
    · split
      · exact hxy.tr Sub.orl
      · exact hxy
    · intro S hSS
      split
      · rename_i c
        exact Sub.or (hS S hSS) (hSS.1.2.2.1 i hi' (hS S hSS i c))
      · exact hS S hSS
    · intro e r hr hb
      by_cases c : y.testBit i = true
      · rw [if_pos c] at e
        have hyx : y = x := Sub.antisymm (fun k hk => by rw [← e]; exact Sub.orl k hk) hxy
        by_cases er : r = i
        · subst er
          intro k hk
          rw [← e]
          exact Sub.orr k hk
        · exact hset hyx r (by omega) hb
      · rw [if_neg c] at e
        by_cases er : r = i
        · subst er
          rw [e] at c
          exact absurd hb c
        · exact hset e r (by omega) hb
theorem x_pass (h : PI g n m G lk ow nd hp) {x o p : Nat} (hx : x < 2 ^ n) (ho : o < 2 ^ n) :
    ((∀ kb5, fixN (F_X0_settled_18B kb5 (nI o) (nI p) (nI x) g) FU (nI x, nI 0) = some (-1)) ∧ ∀ S, ¬ Pin n m G lk ow nd hp x o S) ∨
    ((∀ kb5, fixN (F_X0_settled_18B kb5 (nI o) (nI p) (nI x) g) FU (nI x, nI 0) = some (nI x)) ∧ x &&& o = 0 ∧ Lset n lk x ∧ Bset m ow nd hp o x m) ∨
    (∃ y, (∀ kb5, fixN (F_X0_settled_18B kb5 (nI o) (nI p) (nI x) g) FU (nI x, nI 0) = kb5 (nI y, nI (p + 1))) ∧ y < 2 ^ n ∧ Sub x y ∧ pc x < pc y ∧ (∀ S, Pin n m G lk ow nd hp x o S → Sub y S)) := by
  have hW := fun {y : Nat} (hy : y < 2 ^ n) => x_wlh h hy ho
  obtain ⟨hn, hm, h1, h2, hG, h3, hlk, hb⟩ := h
  have hk := fun i => lkf_ok (m := m) (G := G) (ow := ow) (nd := nd) (hp := hp) (o := o) hx (fun r hr => (hlk r hr).2) i
  have hE : ∀ kb5, fixN (F_X0_settled_18B kb5 (nI o) (nI p) (nI x) g) FU (nI x, nI 0) = (F_X0_withLastHelpers (nI (lkf lk x n)) (nI o) g).bind fun r_3 => if r_3 = -1 then some (-1) else if (r_3 &&& nI o) = 0 then if r_3 = nI x then some r_3 else kb5 (r_3, nI p + 1) else some (-1) := by
    intro kb5
    refine fix_for0 (fun i => (nI (lkf lk x i), nI i)) n _ (fun i hi kb => ?_) (fun kb => ?_) (by omega)
    · obtain ⟨l1, l2⟩ := hlk i hi
      have hy := (hk i (by omega)).1
      unfold F_X0_settled_18B F_X0_settled_54
      dsimp only [lkf]
      generalize hye : lkf lk x i = y at *
      rw [h1, if_neg (nI_ge hi (by omega)), x_has (p16 hn hy) (by omega), nI_clamp (by omega), l1, nI_1]
      simp only [Option.bind_some, lt_def, ck_true (inB_nI (show i < 16 by omega) (by decide)), nI_or]
      by_cases c : y.testBit i = true
      · simp [c]
      · simp only [c, if_false, Bool.false_eq_true, if_true]
        rw [show (nI y ||| 0 : Int32) = nI (y ||| 0) from nI_or y 0, Nat.or_zero]
    · unfold F_X0_settled_18B
      dsimp only
      rw [h1, if_pos (nI_le (Nat.le_refl _) (by omega))]
      rfl
  obtain ⟨hy, hxy, hS, hset⟩ := hk n (Nat.le_refl _)
  generalize lkf lk x n = y at *
  obtain ⟨r, hr, hF⟩ := hW hy
  have hE' : ∀ kb5, fixN (F_X0_settled_18B kb5 (nI o) (nI p) (nI x) g) FU (nI x, nI 0) = if r = -1 then some (-1) else if (r &&& nI o) = 0 then if r = nI x then some r else kb5 (r, nI p + 1) else some (-1) := by
    intro kb5
    rw [hE, hF, Option.bind_some]
  rcases hr with ⟨rfl, hno⟩ | ⟨z, rfl, hz, hyz, hzS, hzset⟩
  · exact Or.inl ⟨fun kb5 => by rw [hE', if_pos rfl], fun S hSS => hno S (hSS.up (hS S hSS))⟩
  · have hE2 : ∀ kb5, fixN (F_X0_settled_18B kb5 (nI o) (nI p) (nI x) g) FU (nI x, nI 0) = if nI (z &&& o) = 0 then if nI z = nI x then some (nI z) else kb5 (nI z, nI (p + 1)) else some (-1) := by
      intro kb5
      rw [hE', if_neg (nI_ne1 (p16 hn hz)), nI_and, nI_1]
    have hzS' : ∀ S, Pin n m G lk ow nd hp x o S → Sub z S := fun S hSS => hzS S (hSS.up (hS S hSS))
    by_cases c : z &&& o = 0
    · by_cases e : z = x
      · subst e
        have hyx : y = z := hyz.antisymm hxy
        subst hyx
        exact Or.inr (Or.inl ⟨fun kb5 => by rw [hE2, if_pos (by rw [c]; rfl), if_pos rfl], c, hset rfl, hzset rfl⟩)
      · exact Or.inr (Or.inr ⟨z, fun kb5 => by rw [hE2, if_pos (by rw [c]; rfl), if_neg (fun q => e ((nI_eq (by have := p16 hn hz; omega) (by have := p16 hn hx; omega)).mp q))], hz, hxy.tr hyz, pc_lt (hxy.tr hyz) (p16 hn hz) e, hzS'⟩)
    · refine Or.inl ⟨fun kb5 => by rw [hE2, if_neg (fun q => c ((nI_z (and_lt16 (b := o) (p16 hn hz))).mp q))], fun S hSS => c (and_zero.mpr (fun i hi => and_zero.mp hSS.2.2 i (hzS' S hSS i hi)))⟩
theorem x_settled (h : PI g n m G lk ow nd hp) {x o : Nat} (hx : x < 2 ^ n) (ho : o < 2 ^ n) :
    ∃ r, ((r = -1 ∧ ∀ S, ¬ Pin n m G lk ow nd hp x o S) ∨ (∃ y, r = nI y ∧ y < 2 ^ n ∧ Sub x y ∧ y &&& o = 0 ∧ (∀ S, Pin n m G lk ow nd hp x o S → Sub y S) ∧ Lset n lk y ∧ Bset m ow nd hp o y m)) ∧ F_X0_settled (nI x) (nI o) g = some r := by
  unfold F_X0_settled
  refine fix_inv (I := fun i st => ∃ y, st = (nI y, nI i) ∧ y < 2 ^ n ∧ Sub x y ∧ i ≤ pc y ∧ (∀ S, Pin n m G lk ow nd hp x o S → Sub y S)) (R := fun r => (r = -1 ∧ ∀ S, ¬ Pin n m G lk ow nd hp x o S) ∨ (∃ y, r = nI y ∧ y < 2 ^ n ∧ Sub x y ∧ y &&& o = 0 ∧ (∀ S, Pin n m G lk ow nd hp x o S → Sub y S) ∧ Lset n lk y ∧ Bset m ow nd hp o y m)) 17 ?_ ?_ 17 0 FU (nI x, nI 0) (by omega) (by decide) ⟨x, rfl, hx, Sub.rf x, Nat.zero_le _, fun S hS => hS.2.1⟩
  · rintro i st hi ⟨y, rfl, hy, hxy, hpy, hS⟩
    have hstep : ∀ kb, F_X0_settled_5B (nI o) g kb (nI y, nI i) = fixN (F_X0_settled_18B kb (nI o) (nI i) (nI y) g) FU (nI y, nI 0) := by
      intro kb
      unfold F_X0_settled_5B
      dsimp only
      rw [if_neg (show ¬ (16 : Int32) < nI i from nI_nlt (a := 16) (b := i) (by omega) (by decide))]
      rfl
    rcases x_pass h (x := y) (o := o) (p := i) hy ho with ⟨e, hno⟩ | ⟨e, e1, e2, e3⟩ | ⟨z, e, e1, e2, e3, e4⟩
    · exact Or.inr ⟨-1, Or.inl ⟨rfl, fun S hSS => hno S (hSS.up (hS S hSS))⟩, fun kb => by rw [hstep, e]⟩
    · exact Or.inr ⟨nI y, Or.inr ⟨y, rfl, hy, hxy, e1, hS, e2, e3⟩, fun kb => by rw [hstep, e]⟩
    · exact Or.inl ⟨_, ⟨z, rfl, e1, hxy.tr e2, by omega, fun S hSS => e4 S (hSS.up (hS S hSS))⟩, fun kb => by rw [hstep, e]⟩
  · rintro st ⟨y, rfl, hy, hxy, hpy, hS⟩
    have := pc_le y
    omega
end SETTLED
