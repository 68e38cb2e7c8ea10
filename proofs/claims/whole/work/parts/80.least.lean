/-! least() and the order -/
section ORDER
variable {gx gm : GM} {S : St} {b wb P N z G K : Nat} {D : Dm}
theorem frx_le (S : St) (left : Nat) : frx S left ≤ sR S := ff_le _ _
theorem frx_bit {left f : Nat} (h : frx S left = f + 1) : f < sR S ∧ left.testBit f = true ∧ adn (lkc S f 5 &&& left) (2 ^ f) = 0 := by
  obtain ⟨h1, h2⟩ := ff_pos _ _ (show ff (fun r => decide (left.testBit r = true ∧ adn (lkc S r 5 &&& left) (2 ^ r) = 0)) (sR S) 0 = f + 1 from h)
  exact ⟨h1, of_decide_eq_true h2⟩
theorem x_firstFree (hn : sR S ≤ 16) (h6 : gi gx 6 6 = nI (sR S)) (h16 : ∀ r, r < sR S → gi gx 16 r = nI (lkc S r 5)) {left : Nat} (hl : left < 2 ^ sR S) : F_X2_firstFree_s (nI left) gx = some (cd 0 (frx S left)) := by
  refine fix_ff0 (B := F_X2_firstFree_s_2B (nI left) gx) (fun i => nI i) (sR S) (fun r => decide (left.testBit r = true ∧ adn (lkc S r 5 &&& left) (2 ^ r) = 0)) (fun k => some (cd 0 k)) (fun i hi kb => ?_) (fun kb => ?_) (by omega)
  · have hll := lkc_lt S i 5
    unfold F_X2_firstFree_s_2B F_X2_firstFree_s_37
    rw [h6, if_neg (nI_ge hi (by omega)), x_has (p16 hn hl) (by omega), Option.bind_some, ck_true (inB_nI (by omega) (by decide)), nI_clamp (by omega), h16 i hi, nI_and, shl1 (by omega), nI_adn _ _ (by have := and_lt16 (b := left) (p16 hn hll); omega), lt_def, nI_1]
    simp only [nI_z (p16 hn (adn_lt (b := 2 ^ i) (Nat.lt_of_le_of_lt Nat.and_le_left hll))), decide_eq_true_eq, cd0S]
    by_cases c1 : left.testBit i = true
    · rw [if_pos c1, if_neg (by decide)]
      by_cases c2 : adn (lkc S i 5 &&& left) (2 ^ i) = 0
      · rw [if_pos c2, if_pos ⟨c1, c2⟩]
      · rw [if_neg c2, if_neg (fun x => c2 x.2)]
    · rw [if_neg c1, if_pos rfl, if_neg (fun x => c1 x.1)]
  · unfold F_X2_firstFree_s_2B
    rw [h6, if_pos (nI_le (Nat.le_refl _) (by omega))]
    rfl
theorem olx_len (S : St) : ∀ n left, (olx S n left).length ≤ n := by
  intro n
  induction n with
  | zero => intro left; exact Nat.le_refl _
  | succ n ih =>
    intro left
    simp only [olx]
    split
    · exact Nat.zero_le _
    · have := ih (adn left (2 ^ (frx S left - 1)))
      simp only [List.length_cons]
      omega
theorem x_lineUp (hn : sR S ≤ 16) : ∀ n left j gx, j + n = 16 → left < 2 ^ sR S → gi gx 6 6 = nI (sR S) → (∀ r, r < sR S → gi gx 16 r = nI (lkc S r 5)) → ∀ nn, n < nn → ∃ gx', fixN F_X2_lineUp_s5_5B nn (nI left, nI j, gx) = some (nI (j + (olx S n left).length), gx') ∧ (∀ i, i < (olx S n left).length → gi gx' 5 (j + i) = nI ((olx S n left).getD i 0)) ∧ (∀ i, i < j → gi gx' 5 i = gi gx 5 i) ∧ (∀ a i, ¬ a = 5 → gi gx' a i = gi gx a i) ∧ ∀ a i, gl gx' a i = gl gx a i := by
  intro n
  induction n with
  | zero =>
    intro left j gx hj hl h6 h16 nn hnn
    obtain ⟨nn, rfl⟩ : ∃ k, nn = k + 1 := ⟨nn - 1, by omega⟩
    have e16 : j = 16 := by omega
    subst e16
    refine ⟨gx, ?_, fun i hi => absurd hi (Nat.not_lt_zero _), fun _ _ => rfl, fun _ _ _ => rfl, fun _ _ => rfl⟩
    have st : ∀ kb, F_X2_lineUp_s5_5B kb (nI left, nI 16, gx) = some (16, gx) := by
      intro kb
      unfold F_X2_lineUp_s5_5B
      dsimp only
      rw [if_pos (by decide)]
    exact st _
  | succ n ih =>
    intro left j gx hj hl h6 h16 nn hnn
    obtain ⟨nn, rfl⟩ : ∃ k, nn = k + 1 := ⟨nn - 1, by omega⟩
    have hfr := frx_le S left
    have pre : ∀ kb, F_X2_lineUp_s5_5B kb (nI left, nI j, gx) = if frx S left = 0 then some (nI j, gx) else kb (nI (adn left (2 ^ (frx S left - 1))), nI (j + 1), si gx 5 j (nI (frx S left - 1))) := by
      intro kb
      unfold F_X2_lineUp_s5_5B
      dsimp only
      rw [if_neg (show ¬ (16 : Int32) ≤ nI j from nI_ge (a := j) (b := 16) (by omega) (by decide)), x_firstFree hn h6 h16 hl, Option.bind_some, lt_def, ck_true (inB_nI (by omega) (by decide)), nI_clamp (by omega)]
      by_cases c : frx S left = 0
      · rw [if_pos c, if_pos ((cd_m1 (by omega)).mpr c)]
      · obtain ⟨f, hf⟩ : ∃ f, frx S left = f + 1 := ⟨frx S left - 1, by omega⟩
        rw [if_neg c, if_neg (fun q => c ((cd_m1 (by omega)).mp q)), hf, cd0S, Nat.add_sub_cancel, lt_def, shl1 (by omega), nI_adn _ _ (by have := p16 hn hl; omega), lt_def, lt_def, nI_1]
    by_cases c : frx S left = 0
    · have el : olx S (n + 1) left = [] := by simp only [olx]; rw [if_pos c]
      rw [el]
      refine ⟨gx, ?_, fun i hi => absurd hi (Nat.not_lt_zero _), fun _ _ => rfl, fun _ _ _ => rfl, fun _ _ => rfl⟩
      show F_X2_lineUp_s5_5B _ _ = _
      rw [pre, if_pos c]
      rfl
    · have el : olx S (n + 1) left = (frx S left - 1) :: olx S n (adn left (2 ^ (frx S left - 1))) := by simp only [olx]; rw [if_neg c]
      obtain ⟨gx', a1, a2, a3, a4, a5⟩ := ih (adn left (2 ^ (frx S left - 1))) (j + 1) (si gx 5 j (nI (frx S left - 1))) (by omega) (adn_lt hl) (by rw [gi_si, if_neg (by omega)]; exact h6) (fun r hr => by rw [gi_si, if_neg (by omega)]; exact h16 r hr) nn (by omega)
      rw [el]
      refine ⟨gx', ?_, fun i hi => ?_, fun i hi => ?_, fun a i ha => ?_, fun a i => a5 a i⟩
      · show F_X2_lineUp_s5_5B _ _ = _
        rw [pre, if_neg c, a1]
        simp only [List.length_cons]
        congr 2
        congr 1
        omega
      · rcases i with _ | i
        · rw [Nat.add_zero, a3 j (by omega), gi_same]; rfl
        · have hi' : i < (olx S n (adn left (2 ^ (frx S left - 1)))).length := by simpa using hi
          have := a2 i hi'
          rw [show j + 1 + i = j + (i + 1) by omega] at this
          rw [this]; rfl
      · rw [a3 i (by omega), gi_si, if_neg (by omega)]
      · rw [a4 a i ha, gi_si, if_neg (by omega)]
/-- the reference's place -/
theorem m_scan (hn : sR S ≤ 16) (hb : b < 2) {g : GM} {left j : Nat} (h23 : gi g 0 23 = nI b) (h13 : gi g 13 b = nI (sR S)) (h28 : ∀ r, r < sR S → gi g 28 r = nI (lkc S r 5)) (hl : left < 2 ^ sR S) (hj : j < 16) :
    (∀ d r m, r + d = sR S → (∀ q, r ≤ q → q < sR S → ¬ (left.testBit q = true ∧ adn (lkc S q 5 &&& left) (2 ^ q) = 0)) → fixN F_X7_place_9B (m + d + 1) (nI left, nI j, nI r, g) = some (nI j, g)) ∧
    (∀ d r f m, r + d = f → f < sR S → (left.testBit f = true ∧ adn (lkc S f 5 &&& left) (2 ^ f) = 0) → (∀ q, r ≤ q → q < f → ¬ (left.testBit q = true ∧ adn (lkc S q 5 &&& left) (2 ^ q) = 0)) → fixN F_X7_place_9B (m + d + 1) (nI left, nI j, nI r, g) = fixN F_X7_place_9B m (nI (left ^^^ 2 ^ f), nI (j + 1), 0, si g 31 j (nI f))) := by
  have step : ∀ kb r, r < sR S → F_X7_place_9B kb (nI left, nI j, nI r, g) = if left.testBit r = true ∧ adn (lkc S r 5 &&& left) (2 ^ r) = 0 then kb (nI (left ^^^ 2 ^ r), nI (j + 1), 0, si g 31 j (nI r)) else kb (nI left, nI j, nI (r + 1), g) := by
    intro kb r hr
    have hll := lkc_lt S r 5
    unfold F_X7_place_9B F_X7_place_47
    dsimp only
    rw [h23, ck_true (inB_nI hb (by decide)), nI_clamp (by omega), h13, if_neg (nI_ge hr (by omega)), ck_true (inB_nI (by omega) (by decide)), nI_clamp (by omega), h28 r hr, nI_and, shl1 (by omega), nI_adn _ _ (by have := and_lt16 (b := left) (p16 hn hll); omega), ck_true (inB_nI hj (by decide)), nI_clamp (by omega), lt_def, lt_def, lt_def, lt_def, nI_1, nI_1, nI_xor]
    simp only [bit0 (p16 hn hl) (show r < 31 by omega), nI_z (p16 hn (adn_lt (b := 2 ^ r) (Nat.lt_of_le_of_lt Nat.and_le_left hll)))]
    by_cases c1 : left.testBit r = true
    · rw [if_neg (by rw [c1]; decide)]
      by_cases c2 : adn (lkc S r 5 &&& left) (2 ^ r) = 0
      · rw [if_pos c2, if_pos ⟨c1, c2⟩]
      · rw [if_neg c2, if_neg (fun x => c2 x.2)]
    · rw [if_pos (by simpa using c1), if_neg (fun x => c1 x.1)]
  refine ⟨fun d => ?_, fun d => ?_⟩
  · induction d with
    | zero =>
      intro r m hr _
      have e : r = sR S := by omega
      subst e
      have st : ∀ kb, F_X7_place_9B kb (nI left, nI j, nI (sR S), g) = some (nI j, g) := by
        intro kb
        unfold F_X7_place_9B
        dsimp only
        rw [h23, ck_true (inB_nI hb (by decide)), nI_clamp (by omega), h13, if_pos (nI_le (Nat.le_refl _) (by omega))]
      exact st _
    | succ d ih =>
      intro r m hr hq
      show F_X7_place_9B (fixN F_X7_place_9B (m + d + 1)) (nI left, nI j, nI r, g) = _
      rw [step _ r (by omega), if_neg (hq r (Nat.le_refl _) (by omega))]
      exact ih (r + 1) m (by omega) (fun q h1 h2 => hq q (by omega) h2)
  · induction d with
    | zero =>
      intro r f m hr hf h1 _
      have e : r = f := by omega
      subst e
      show F_X7_place_9B (fixN F_X7_place_9B m) (nI left, nI j, nI r, g) = _
      rw [step _ r hf, if_pos h1]
    | succ d ih =>
      intro r f m hr hf h1 hq
      show F_X7_place_9B (fixN F_X7_place_9B (m + d + 1)) (nI left, nI j, nI r, g) = _
      rw [step _ r (by omega), if_neg (hq r (Nat.le_refl _) (by omega))]
      exact ih (r + 1) f m (by omega) hf h1 (fun q p1 p2 => hq q (by omega) p2)
theorem bit_pos {f left : Nat} (hf : f < 16) (h : left.testBit f = true) : pc (adn left (2 ^ f)) + 1 ≤ pc left := by
  have h1 := pc_part (a := 2 ^ f) (b := left) (fun i hi => by rw [two_bit] at hi; rw [← of_decide_eq_true hi]; exact h)
  have h2 : 0 < pc (2 ^ f) := pcn_pos 16 hf (by rw [two_bit]; simp)
  omega
theorem xor_adn {left f : Nat} (h : left.testBit f = true) : left ^^^ 2 ^ f = adn left (2 ^ f) := by
  apply Nat.eq_of_testBit_eq
  intro i
  rw [Nat.testBit_xor, adn_bit, two_bit]
  by_cases e : f = i
  · subst e; simp [h]
  · simp [e]
theorem m_place (hn : sR S ≤ 16) (hb : b < 2) : ∀ n left j g, pc left ≤ n → j + n = 16 → left < 2 ^ sR S → gi g 0 23 = nI b → gi g 13 b = nI (sR S) → (∀ r, r < sR S → gi g 28 r = nI (lkc S r 5)) → ∀ nn, 20 * (n + 1) ≤ nn → ∃ g', fixN F_X7_place_9B nn (nI left, nI j, 0, g) = some (nI (j + (olx S n left).length), g') ∧ (∀ i, i < (olx S n left).length → gi g' 31 (j + i) = nI ((olx S n left).getD i 0)) ∧ (∀ i, i < j → gi g' 31 i = gi g 31 i) ∧ (∀ a i, ¬ a = 31 → gi g' a i = gi g a i) ∧ ∀ a i, gl g' a i = gl g a i := by
  intro n
  induction n with
  | zero =>
    intro left j g hp hj hl h23 h13 h28 nn hnn
    have e16 : j = 16 := by omega
    subst e16
    have el : left = 0 := pc_zero (p16 hn hl) (by omega)
    subst el
    refine ⟨g, ?_, fun i hi => absurd hi (Nat.not_lt_zero _), fun _ _ => rfl, fun _ _ _ => rfl, fun _ _ => rfl⟩
    have key : ∀ d r m, r + d = sR S → fixN F_X7_place_9B (m + d + 1) (nI 0, nI 16, nI r, g) = some (nI 16, g) := by
      intro d
      induction d with
      | zero =>
        intro r m hr
        have e : r = sR S := by omega
        subst e
        have st : ∀ kb, F_X7_place_9B kb (nI 0, nI 16, nI (sR S), g) = some (nI 16, g) := by
          intro kb
          unfold F_X7_place_9B
          dsimp only
          rw [h23, ck_true (inB_nI hb (by decide)), nI_clamp (by omega), h13, if_pos (nI_le (Nat.le_refl _) (by omega))]
        exact st _
      | succ d ih =>
        intro r m hr
        show F_X7_place_9B (fixN F_X7_place_9B (m + d + 1)) (nI 0, nI 16, nI r, g) = _
        have st : ∀ kb, F_X7_place_9B kb (nI 0, nI 16, nI r, g) = kb (nI 0, nI 16, nI (r + 1), g) := by
          intro kb
          unfold F_X7_place_9B F_X7_place_47
          dsimp only
          rw [h23, ck_true (inB_nI hb (by decide)), nI_clamp (by omega), h13, if_neg (nI_ge (by omega) (by omega)), if_pos ((bit0 (s := 0) (by decide) (show r < 31 by omega)).mpr (Nat.zero_testBit r)), lt_def, nI_1]
        rw [st]
        exact ih (r + 1) m (by omega)
    have := key (sR S) 0 (nn - sR S - 1) (by omega)
    rw [show nn - sR S - 1 + sR S + 1 = nn by omega] at this
    exact this
  | succ n ih =>
    intro left j g hp hj hl h23 h13 h28 nn hnn
    obtain ⟨sc1, sc2⟩ := m_scan (j := j) hn hb h23 h13 h28 hl (by omega)
    by_cases c : frx S left = 0
    · have el : olx S (n + 1) left = [] := by simp only [olx]; rw [if_pos c]
      rw [el]
      refine ⟨g, ?_, fun i hi => absurd hi (Nat.not_lt_zero _), fun _ _ => rfl, fun _ _ _ => rfl, fun _ _ => rfl⟩
      have hno := (ff_none _ _).mp c
      have := sc1 (sR S) 0 (nn - sR S - 1) (by omega) (fun q _ h2 x => by have := of_decide_eq_false (hno q h2); exact this x)
      rw [show nn - sR S - 1 + sR S + 1 = nn by omega] at this
      exact this
    · obtain ⟨f, hf⟩ : ∃ f, frx S left = f + 1 := ⟨frx S left - 1, by omega⟩
      obtain ⟨f1, f2, f3⟩ := frx_bit hf
      have hfirst : ∀ q, 0 ≤ q → q < f → ¬ (left.testBit q = true ∧ adn (lkc S q 5 &&& left) (2 ^ q) = 0) := by
        intro q _ hq
        rcases ff_spec (fun r => decide (left.testBit r = true ∧ adn (lkc S r 5 &&& left) (2 ^ r) = 0)) (sR S) 0 with ⟨e, _⟩ | ⟨k, _, k2, k3, k4, k5⟩
        · unfold frx at hf; omega
        · have : k = f := by unfold frx at hf; omega
          subst this
          exact of_decide_eq_false (k5 q (Nat.zero_le _) hq)
      have el : olx S (n + 1) left = f :: olx S n (adn left (2 ^ f)) := by simp only [olx]; rw [if_neg c, hf]; rfl
      have hbp := bit_pos (show f < 16 by omega) f2
      obtain ⟨g', a1, a2, a3, a4, a5⟩ := ih (adn left (2 ^ f)) (j + 1) (si g 31 j (nI f)) (by omega) (by omega) (adn_lt hl) (by rw [gi_si, if_neg (by omega)]; exact h23) (by rw [gi_si, if_neg (by omega)]; exact h13) (fun r hr => by rw [gi_si, if_neg (by omega)]; exact h28 r hr) (nn - f - 1) (by omega)
      rw [el]
      refine ⟨g', ?_, fun i hi => ?_, fun i hi => ?_, fun a i ha => ?_, fun a i => a5 a i⟩
      · have := sc2 f 0 f (nn - f - 1) (by omega) f1 ⟨f2, f3⟩ hfirst
        rw [show nn - f - 1 + f + 1 = nn by omega, xor_adn f2, a1] at this
        have e0 : nI (0 : Nat) = 0 := rfl
        rw [e0] at this
        rw [this]
        simp only [List.length_cons]
        congr 2
        congr 1
        omega
      · rcases i with _ | i
        · rw [Nat.add_zero, a3 j (by omega), gi_same]; rfl
        · have hi' : i < (olx S n (adn left (2 ^ f))).length := by simpa using hi
          have := a2 i hi'
          rw [show j + 1 + i = j + (i + 1) by omega] at this
          rw [this]; rfl
      · rw [a3 i (by omega), gi_si, if_neg (by omega)]
      · rw [a4 a i ha, gi_si, if_neg (by omega)]
end ORDER
