/-! search, cut -/
/-- a comes before b: at the first row in which they differ, a has it -/
def Ah (a b : Nat) : Prop := ∃ i, a.testBit i = true ∧ b.testBit i = false ∧ ∀ j, j < i → a.testBit j = b.testBit j
theorem shl1 {k : Nat} (hk : k < 31) : (1 : Int32) <<< (nI k &&& 31) = nI (2 ^ k) := by
  have h := nI_shl (n := 1) hk (by rw [Nat.one_mul]; exact Nat.pow_lt_pow_right (by decide) (by omega))
  rw [Nat.one_mul] at h
  exact h
/-- g' is g but for cell c's ints -/
def Off (c : Nat) (g g' : GM) : Prop := (∀ a b, ¬ a = c → gi g' a b = gi g a b) ∧ ∀ a b, gl g' a b = gl g a b
theorem Off.rf (c : Nat) (g : GM) : Off c g g := ⟨fun _ _ _ => rfl, fun _ _ => rfl⟩
theorem Off.tr {c : Nat} {g1 g2 g3 : GM} (h1 : Off c g1 g2) (h2 : Off c g2 g3) : Off c g1 g3 := ⟨fun a b h => (h2.1 a b h).trans (h1.1 a b h), fun a b => (h2.2 a b).trans (h1.2 a b)⟩
theorem Off.si {c k : Nat} {g : GM} {v : Int32} : Off c g (si g c k v) := ⟨fun a b h => by rw [gi_si, if_neg (fun q => h q.1)], fun a b => gl_si g c k a b v⟩
section CUT
variable {g : GM} {n m G : Nat} {lk ow nd hp : Nat → Nat}
theorem PI.off {g' : GM} (h : PI g n m G lk ow nd hp) (ho : Off 42 g g') (h2 : gi g' 42 2 = gi g 42 2) : PI g' n m G lk ow nd hp := by
  obtain ⟨hn, hm, h1, h3, hG, h4, hlk, hb⟩ := h
  refine ⟨hn, hm, by rw [ho.1 _ _ (by decide)]; exact h1, by rw [ho.1 _ _ (by decide)]; exact h3, hG, by rw [h2]; exact h4, fun r hr => ⟨by rw [ho.1 _ _ (by decide)]; exact (hlk r hr).1, (hlk r hr).2⟩, fun j hj => ?_⟩
  obtain ⟨b1, b2, b3, b4⟩ := hb j hj
  exact ⟨by rw [ho.1 _ _ (by decide)]; exact b1, by rw [ho.1 _ _ (by decide)]; exact b2, by rw [ho.1 _ _ (by decide)]; exact b3, b4⟩
def Good (n m G : Nat) (lk ow nd hp : Nat → Nat) (K CM RM S : Nat) : Prop := Pc n m G lk ow nd hp S ∧ pc S ≤ RM ∧ chg K S ≤ CM
theorem x_find (hP : PI g n m G lk ow nd hp) {x o : Nat} (hx : x < 2 ^ n) (ho : o < 2 ^ n) (rc : Int32 → Int32 → Int32 → GM → Option Int32) :
    ∀ d i fu, i + d = n → d < fu → ∃ k, i ≤ k ∧ k ≤ n ∧ (∀ j, i ≤ j → j < k → (x ||| o).testBit j = true) ∧ (k < n → (x ||| o).testBit k = false) ∧ fixN (F_X0_searchR_29B rc (nI o) (nI x) g) fu (nI i) = F_X0_searchR_59 rc (nI o) (nI x) (nI k) g := by
  obtain ⟨hn, hm, h1, h3, hG, h4, hlk, hb⟩ := hP
  intro d
  induction d with
  | zero =>
    intro i fu hi hfu
    obtain ⟨fu, rfl⟩ : ∃ k, fu = k + 1 := ⟨fu - 1, by omega⟩
    have e : i = n := by omega
    subst e
    refine ⟨i, Nat.le_refl _, Nat.le_refl _, fun j h1 h2 => by omega, fun h => by omega, ?_⟩
    show F_X0_searchR_29B rc (nI o) (nI x) g _ (nI i) = _
    unfold F_X0_searchR_29B
    rw [h1, if_pos (nI_le (Nat.le_refl _) (by omega))]
  | succ d ih =>
    intro i fu hi hfu
    obtain ⟨fu, rfl⟩ : ∃ k, fu = k + 1 := ⟨fu - 1, by omega⟩
    have step : fixN (F_X0_searchR_29B rc (nI o) (nI x) g) (fu + 1) (nI i) = if (x ||| o).testBit i = true then fixN (F_X0_searchR_29B rc (nI o) (nI x) g) fu (nI (i + 1)) else F_X0_searchR_59 rc (nI o) (nI x) (nI i) g := by
      show F_X0_searchR_29B rc (nI o) (nI x) g _ (nI i) = _
      unfold F_X0_searchR_29B
      rw [h1, if_neg (nI_ge (show i < n by omega) (by omega)), nI_or, x_has (p16 hn (or_lt hx ho)) (by omega), Option.bind_some, nI_1]
      cases (x ||| o).testBit i <;> simp [lt_def]
    rw [step]
    by_cases c : (x ||| o).testBit i = true
    · rw [if_pos c]
      obtain ⟨k, k1, k2, k3, k4, k5⟩ := ih (i + 1) fu (by omega) (by omega)
      refine ⟨k, by omega, k2, fun j j1 j2 => ?_, k4, k5⟩
      by_cases e : j = i
      · subst e; exact c
      · exact k3 j (by omega) j2
    · rw [if_neg c]
      exact ⟨i, Nat.le_refl _, by omega, fun j h1 h2 => by omega, fun _ => by simpa using c, rfl⟩
theorem all_piece (hn : n ≤ 16) {x o : Nat} (hx : x < 2 ^ n) (hGo : Sub G o) (hxo : x &&& o = 0) (hL : Lset n lk x) (hB : Bset m ow nd hp o x m) (hp2 : ∀ j, j < m → hp j < 2 ^ n) (hall : ∀ j, j < n → (x ||| o).testBit j = true) : Pc n m G lk ow nd hp x := by
  refine ⟨hx, and_zero.mpr (fun i hi => ?_), hL, fun j hj hb => ?_⟩
  · have h1 := and_zero.mp hxo i hi
    cases hG : G.testBit i with
    | false => rfl
    | true => rw [hGo i hG] at h1; cases h1
  · have hs : Sub (adn (hp j) o) (hp j &&& x) := by
      intro i hi
      rw [adn_bit, Bool.and_eq_true] at hi
      have h2 := hall i (bits_lt (hp2 j hj) hi.1)
      rw [Nat.testBit_or] at h2
      have h3 : o.testBit i = false := by simpa using hi.2
      rw [h3, Bool.or_false] at h2
      rw [Nat.testBit_and, hi.1, h2]
      rfl
    have := pc_mono hs
    rcases hB j hj hb with h1 | h1 <;> omega
theorem all_eq {x o S : Nat} (hS2 : S < 2 ^ n) (hx : Sub x S) (hSo : S &&& o = 0) (hall : ∀ j, j < n → (x ||| o).testBit j = true) : S = x := by
  refine Sub.antisymm (fun i hi => ?_) hx
  have h1 := hall i (bits_lt hS2 hi)
  rw [Nat.testBit_or, and_zero.mp hSo i hi, Bool.or_false] at h1
  exact h1
theorem x_search (hP : PI g n m G lk ow nd hp) {K CM RM : Nat} (hL : LM g n K CM RM) :
    ∀ fu i x o, n < fu + i → i ≤ n → x < 2 ^ n → o < 2 ^ n → Sub G o → (∀ j, j < i → (x ||| o).testBit j = true) →
      ∃ r, ((r = -1 ∧ ∀ S, Good n m G lk ow nd hp K CM RM S → Sub x S → S &&& o = 0 → False) ∨
        (∃ S, r = nI S ∧ Good n m G lk ow nd hp K CM RM S ∧ Sub x S ∧ S &&& o = 0 ∧ ∀ S', Good n m G lk ow nd hp K CM RM S' → Sub x S' → S' &&& o = 0 → ¬ S' = S → Ah S S')) ∧
        F_X0_search fu (nI i) (nI x) (nI o) g = some r := by
  intro fu
  induction fu with
  | zero => intro i x o h1 h2; omega
  | succ fu ih =>
    intro i x o hfu hi hx ho hGo hdec
    have hn := hP.1
    show ∃ r, _ ∧ F_X0_searchR (F_X0_search fu) (nI i) (nI x) (nI o) g = some r
    unfold F_X0_searchR
    obtain ⟨r, hr, e⟩ := x_settled hP hx ho
    rw [e, Option.bind_some, lt_def]
    rcases hr with ⟨rfl, hno⟩ | ⟨y, rfl, hy, hxy, hyo, hyS, hyL, hyB⟩
    · exact ⟨-1, Or.inl ⟨rfl, fun S hG1 hxS hSo => hno S ⟨hG1.1, hxS, hSo⟩⟩, by rw [if_pos rfl]⟩
    · rw [if_neg (nI_ne1 (p16 hn hy))]
      have hyS' : ∀ S, Good n m G lk ow nd hp K CM RM S → Sub x S → S &&& o = 0 → Sub y S := fun S h1 h2 h3 => hyS S ⟨h1.1, h2, h3⟩
      obtain ⟨r, hr, e⟩ := x_within hP hL hy ho
      rw [e, Option.bind_some]
      rcases hr with ⟨rfl, hno⟩ | ⟨rfl, w1, w2⟩
      · exact ⟨-1, Or.inl ⟨rfl, fun S h1 h2 h3 => hno S ⟨h1.1, hyS' S h1 h2 h3, h3⟩ h1.2⟩, by rw [if_pos rfl]⟩
      · rw [if_neg (by decide)]
        obtain ⟨k, k1, k2, k3, k4, k5⟩ := x_find hP hy ho (F_X0_search fu) (n - i) i FU (by omega) (by show n - i < 70000; omega)
        rw [k5]
        have hdec' : ∀ j, j < k → (y ||| o).testBit j = true := by
          intro j hj
          by_cases c : j < i
          · have := hdec j c
            rw [Nat.testBit_or, Bool.or_eq_true] at this ⊢
            exact this.imp (hxy j) id
          · exact k3 j (by omega) hj
        unfold F_X0_searchR_59
        rw [hP.2.2.1]
        by_cases ck : k < n
        · rw [if_pos (nI_lt ck (by omega)), shl1 (by omega), nI_or, nI_or, nI_1]
          have hk0 := k4 ck
          rw [Nat.testBit_or, Bool.or_eq_false_iff] at hk0
          have h2k : 2 ^ k < 2 ^ n := Nat.pow_lt_pow_right (by decide) ck
          have hd1 : ∀ j, j < k + 1 → ((y ||| 2 ^ k) ||| o).testBit j = true := by
            intro j hj
            rw [Nat.testBit_or, setbit]
            by_cases ej : j = k
            · subst ej; simp
            · have := hdec' j (by omega)
              rw [Nat.testBit_or, Bool.or_eq_true] at this
              rcases this with q | q <;> simp [q]
          have hd2 : ∀ j, j < k + 1 → (y ||| (o ||| 2 ^ k)).testBit j = true := by
            intro j hj
            rw [Nat.testBit_or, setbit]
            by_cases ej : j = k
            · subst ej; simp
            · have := hdec' j (by omega)
              rw [Nat.testBit_or, Bool.or_eq_true] at this
              rcases this with q | q <;> simp [q]
          have in1 : ∀ S, Sub y S → S.testBit k = true → Sub (y ||| 2 ^ k) S := fun S h1 h2 j hj => by
            rw [setbit, Bool.or_eq_true, decide_eq_true_eq] at hj
            rcases hj with q | q
            · exact h1 j q
            · rw [← q]; exact h2
          have out1 : ∀ S, S &&& o = 0 → S.testBit k = false → S &&& (o ||| 2 ^ k) = 0 := fun S h1 h2 => and_zero.mpr (fun j hj => by
            rw [setbit, and_zero.mp h1 j hj, Bool.false_or, decide_eq_false_iff_not]
            intro q
            subst q
            rw [h2] at hj
            cases hj)
          obtain ⟨r1, hr1, e1⟩ := ih (k + 1) (y ||| 2 ^ k) o (by omega) (by omega) (or_lt hy h2k) ho hGo hd1
          rw [e1, Option.bind_some, lt_def]
          rcases hr1 with ⟨rfl, hno⟩ | ⟨S, rfl, hGS, hyS1, hSo, hAh⟩
          · rw [if_pos rfl]
            have hk' : ∀ S, Good n m G lk ow nd hp K CM RM S → Sub x S → S &&& o = 0 → S.testBit k = false := by
              intro S h1 h2 h3
              cases hb : S.testBit k with
              | false => rfl
              | true => exact (hno S h1 (in1 S (hyS' S h1 h2 h3) hb) h3).elim
            obtain ⟨r2, hr2, e2⟩ := ih (k + 1) y (o ||| 2 ^ k) (by omega) (by omega) hy (or_lt ho h2k) (hGo.tr Sub.orl) hd2
            rw [e2, Option.bind_some]
            rcases hr2 with ⟨rfl, hno2⟩ | ⟨S, rfl, hGS, hyS1, hSo, hAh⟩
            · exact ⟨-1, Or.inl ⟨rfl, fun S h1 h2 h3 => hno2 S h1 (hyS' S h1 h2 h3) (out1 S h3 (hk' S h1 h2 h3))⟩, rfl⟩
            · refine ⟨nI S, Or.inr ⟨S, rfl, hGS, hxy.tr hyS1, and_zero.mpr (fun j hj => ?_), fun S' h1 h2 h3 h4 => hAh S' h1 (hyS' S' h1 h2 h3) (out1 S' h3 (hk' S' h1 h2 h3)) h4⟩, rfl⟩
              have := and_zero.mp hSo j hj
              rw [Nat.testBit_or, Bool.or_eq_false_iff] at this
              exact this.1
          · rw [if_neg (nI_ne1 (p16 hn hGS.1.1))]
            refine ⟨nI S, Or.inr ⟨S, rfl, hGS, (hxy.tr Sub.orl).tr hyS1, hSo, fun S' h1 h2 h3 h4 => ?_⟩, rfl⟩
            cases hb : S'.testBit k with
            | true => exact hAh S' h1 (in1 S' (hyS' S' h1 h2 h3) hb) h3 h4
            | false =>
              refine ⟨k, hyS1 k (by rw [setbit]; simp), hb, fun j hj => ?_⟩
              have hd := hdec' j hj
              rw [Nat.testBit_or, Bool.or_eq_true] at hd
              rcases hd with q | q
              · rw [hyS1 j (by rw [setbit, q]; rfl), hyS' S' h1 h2 h3 j q]
              · have a1 : S.testBit j = false := by
                  cases hh : S.testBit j with
                  | false => rfl
                  | true => rw [and_zero.mp hSo j hh] at q; cases q
                have a2 : S'.testBit j = false := by
                  cases hh : S'.testBit j with
                  | false => rfl
                  | true => rw [and_zero.mp h3 j hh] at q; cases q
                rw [a1, a2]
        · rw [if_neg (nI_nlt (by omega) (by omega))]
          have hall : ∀ j, j < n → (y ||| o).testBit j = true := fun j hj => hdec' j (by omega)
          have hPy := all_piece hn hy hGo hyo hyL hyB (fun j hj => (hP.2.2.2.2.2.2.2 j hj).2.2.2.2.2) hall
          refine ⟨nI y, Or.inr ⟨y, rfl, ⟨hPy, w1, ?_⟩, hxy, hyo, fun S' h1 h2 h3 h4 => (h4 (all_eq h1.1.1 (hyS' S' h1 h2 h3) h3 hall)).elim⟩, rfl⟩
          unfold chg
          have : pc (adn K y) ≤ pc (K &&& o) := pc_mono (fun j hj => by
            rw [adn_bit, Bool.and_eq_true] at hj
            have h2 := hall j (bits_lt hL.1 hj.1)
            rw [Nat.testBit_or] at h2
            have h3 : y.testBit j = false := by simpa using hj.2
            rw [h3, Bool.false_or] at h2
            rw [Nat.testBit_and, hj.1, h2]
            rfl)
          omega
end CUT
