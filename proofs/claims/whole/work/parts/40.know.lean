/-! the reference looks at all sets: know, steady -/
/-- g' is g but for one slot -/
def Os (c k : Nat) (g g' : GM) : Prop := (∀ a b, ¬ (a = c ∧ b = k) → gi g' a b = gi g a b) ∧ ∀ a b, gl g' a b = gl g a b
theorem Os.rf (c k : Nat) (g : GM) : Os c k g g := ⟨fun _ _ _ => rfl, fun _ _ => rfl⟩
theorem Os.tr {c k : Nat} {g1 g2 g3 : GM} (h1 : Os c k g1 g2) (h2 : Os c k g2 g3) : Os c k g1 g3 := ⟨fun a b h => (h2.1 a b h).trans (h1.1 a b h), fun a b => (h2.2 a b).trans (h1.2 a b)⟩
theorem Os.si {c k : Nat} {g : GM} {v : Int32} : Os c k g (si g c k v) := ⟨fun a b h => by rw [gi_si, if_neg h], fun a b => gl_si g c k a b v⟩
theorem nI_neg {a : Nat} (ha : a < 65536) : ¬ nI a < 0 := nI_pos (by omega)
section KNOW
variable {g : GM} {n W G wk : Nat} {dr ct : Nat → Nat} {lw : Nat → Bool} {nd : Nat → Nat} {as : Nat → Nat → Nat}
theorem MP.os {g' : GM} {k : Nat} (h : MP g n W G wk dr ct lw nd as) (ho : Os 0 k g g') (h1 : ¬ k = 23) (h2 : ¬ k = 37) (h3 : ¬ k = 49) : MP g' n W G wk dr ct lw nd as := by
  obtain ⟨hn, hW, ⟨b, hb, b1, b2⟩, ⟨w0, w1, w2⟩, ⟨hG, h49⟩, hdr, hall⟩ := h
  have o := fun (a b : Nat) (q : ¬ (a = 0 ∧ b = k)) => ho.1 a b q
  refine ⟨hn, hW, ⟨b, hb, by rw [o _ _ (fun q => h1 q.2.symm)]; exact b1, by rw [o _ _ (by simp)]; exact b2⟩, ⟨w0, by rw [o _ _ (fun q => h2 q.2.symm)]; exact w1, by rw [o _ _ (by simp)]; exact w2⟩, ⟨hG, by rw [o _ _ (fun q => h3 q.2.symm)]; exact h49⟩, fun r hr => by rw [o _ _ (by simp)]; exact hdr r hr, fun j hj => ?_⟩
  obtain ⟨k1, k2, k3, k4, k5, k6, k7⟩ := hall j hj
  rw [o 16 _ (by simp), o 17 _ (by simp), o 29 _ (by simp)]
  exact ⟨k1, k2, k3, k4, k5, k6, fun r hr => by rw [o _ _ (by simp)]; exact k7 r hr⟩
theorem MP.rows (h : MP g n W G wk dr ct lw nd as) : inB (gi g 0 23) 2 = true ∧ gi g 13 (gi g 0 23).toNatClampNeg = nI n := by
  obtain ⟨hn, hW, ⟨b, hb, b1, b2⟩, _⟩ := h
  exact ⟨by rw [b1]; exact inB_nI hb (by decide), by rw [b1, nI_clamp (by omega), b2]⟩
theorem m_know (h : MP g n W G wk dr ct lw nd as) (h51 : gi g 0 51 = -1) :
    ∃ g', fixN F_X7_know_24B FU (0, g) = some g' ∧ Os 0 51 g g' ∧ ((gi g' 0 51 = -1 ∧ ∀ S, ¬ Pcm n W G dr ct lw nd as S) ∨ (∃ S, gi g' 0 51 = nI S ∧ Bi (Pcm n W G dr ct lw nd as) 0 (2 ^ n) S)) := by
  have hn := h.1
  have h2n : 2 ^ n ≤ 65536 := Nat.pow_le_pow_right (n := 2) (by decide) hn
  have key : ∃ r, (Os 0 51 g r ∧ ((gi r 0 51 = -1 ∧ ∀ S, S < 2 ^ n → ¬ Pcm n W G dr ct lw nd as S) ∨ (∃ S, gi r 0 51 = nI S ∧ Bi (Pcm n W G dr ct lw nd as) 0 (2 ^ n) S))) ∧ fixN F_X7_know_24B FU (nI 0, g) = some r := by
    refine fix_inv (I := fun i st => ∃ g', st = (nI i, g') ∧ Os 0 51 g g' ∧ ((gi g' 0 51 = -1 ∧ ∀ S, S < i → ¬ Pcm n W G dr ct lw nd as S) ∨ (∃ S, gi g' 0 51 = nI S ∧ Bi (Pcm n W G dr ct lw nd as) 0 i S))) (R := fun r => Os 0 51 g r ∧ ((gi r 0 51 = -1 ∧ ∀ S, S < 2 ^ n → ¬ Pcm n W G dr ct lw nd as S) ∨ (∃ S, gi r 0 51 = nI S ∧ Bi (Pcm n W G dr ct lw nd as) 0 (2 ^ n) S))) (2 ^ n) ?_ ?_ (2 ^ n) 0 FU (nI 0, g) (by omega) (by show 2 ^ n < 70000; omega) ⟨g, rfl, Os.rf _ _ g, Or.inl ⟨h51, fun S hS => by omega⟩⟩
    · rintro i st hi ⟨g', rfl, ho, hc⟩
      have hM := h.os ho (by decide) (by decide) (by decide)
      obtain ⟨i1, i2⟩ := hM.rows
      obtain ⟨p1, p2⟩ := m_isPiece hM hi
      have hpi := pc_le i
      have hnew : gi (si g' 0 51 (nI i)) 0 51 = nI i := by rw [gi_si, if_pos ⟨rfl, rfl⟩]
      refine Or.inl ?_
      rcases hc with ⟨h1, hno⟩ | ⟨S, h1, hB⟩
      · have step : ∀ kb, F_X7_know_24B kb (nI i, g') = (F_X7_isPiece (nI i) g').bind fun r => if r = 0 then kb (nI (i + 1), g') else kb (nI (i + 1), si g' 0 51 (nI i)) := by
          intro kb
          unfold F_X7_know_24B F_X7_know_60 F_X7_know_103 F_X7_know_108
          dsimp only
          rw [ck_true i1, i2, shl1 (by omega), if_neg (nI_ge hi (by omega)), h1, if_pos (by decide), if_pos (by decide), nI_1]
          rfl
        by_cases c : Pcm n W G dr ct lw nd as i
        · refine ⟨_, ⟨_, rfl, ho.tr Os.si, Or.inr ⟨i, hnew, by omega, c, fun S' s1 s2 s3 => (hno S' (by omega) s2).elim⟩⟩, fun kb => by rw [step, p1 c, Option.bind_some, if_neg (by decide)]⟩
        · refine ⟨_, ⟨_, rfl, ho, Or.inl ⟨h1, fun S hS => ?_⟩⟩, fun kb => by rw [step, p2 c, Option.bind_some, if_pos rfl]⟩
          by_cases e : S = i
          · subst e; exact c
          · exact hno S (by omega)
      · have hSi := hB.1
        have hpS := pc_le S
        obtain ⟨a1, a2⟩ := m_isAhead (a := i) (b := S) (by omega) (by omega)
        have step : ∀ kb, F_X7_know_24B kb (nI i, g') = if pc S < pc i then kb (nI (i + 1), g') else (F_X7_isPiece (nI i) g').bind fun r => if r = 0 then kb (nI (i + 1), g') else if pc i < pc S then kb (nI (i + 1), si g' 0 51 (nI i)) else (F_X7_isAhead (nI i) (nI S)).bind fun r => if r = 0 then kb (nI (i + 1), g') else kb (nI (i + 1), si g' 0 51 (nI i)) := by
          intro kb
          unfold F_X7_know_24B F_X7_know_60 F_X7_know_103 F_X7_know_108
          dsimp only
          rw [ck_true i1, i2, shl1 (by omega), if_neg (nI_ge hi (by omega)), h1, if_neg (nI_neg (by omega)), if_neg (nI_neg (by omega)), m_bitsOf (by omega), m_bitsOf (by omega), nI_1]
          simp only [Option.bind_some, nI_ltI (show pc S < 2 ^ 31 by omega) (show pc i < 2 ^ 31 by omega), nI_ltI (show pc i < 2 ^ 31 by omega) (show pc S < 2 ^ 31 by omega), lt_def]
        by_cases c1 : pc S < pc i
        · exact ⟨_, ⟨_, rfl, ho, Or.inr ⟨S, h1, hB.keep (Or.inr ((Bt0 S i).mpr (Or.inl c1)))⟩⟩, fun kb => by rw [step, if_pos c1]⟩
        · by_cases c : Pcm n W G dr ct lw nd as i
          · by_cases c2 : pc i < pc S
            · exact ⟨_, ⟨_, rfl, ho.tr Os.si, Or.inr ⟨i, hnew, hB.new c ((Bt0 i S).mpr (Or.inl c2))⟩⟩, fun kb => by rw [step, if_neg c1, p1 c, Option.bind_some, if_neg (by decide), if_pos c2]⟩
            · by_cases c3 : Ah i S
              · exact ⟨_, ⟨_, rfl, ho.tr Os.si, Or.inr ⟨i, hnew, hB.new c ((Bt0 i S).mpr (Or.inr ⟨by omega, c3⟩))⟩⟩, fun kb => by rw [step, if_neg c1, p1 c, Option.bind_some, if_neg (by decide), if_neg c2, a1 c3, Option.bind_some, if_neg (by decide)]⟩
              · have c4 : Ah S i := (Ah.tot (a := i) (b := S) (by omega)).resolve_left c3
                exact ⟨_, ⟨_, rfl, ho, Or.inr ⟨S, h1, hB.keep (Or.inr ((Bt0 S i).mpr (Or.inr ⟨by omega, c4⟩)))⟩⟩, fun kb => by rw [step, if_neg c1, p1 c, Option.bind_some, if_neg (by decide), if_neg c2, a2 c3, Option.bind_some, if_pos rfl]⟩
          · exact ⟨_, ⟨_, rfl, ho, Or.inr ⟨S, h1, hB.keep (Or.inl c)⟩⟩, fun kb => by rw [step, if_neg c1, p2 c, Option.bind_some, if_pos rfl]⟩
    · rintro st ⟨g', rfl, ho, hc⟩
      obtain ⟨i1, i2⟩ := (h.os ho (by decide) (by decide) (by decide)).rows
      refine ⟨g', ⟨ho, hc⟩, fun kb => ?_⟩
      unfold F_X7_know_24B
      dsimp only
      rw [ck_true i1, i2, shl1 (by omega), if_pos (nI_le (Nat.le_refl _) (by omega))]
  obtain ⟨r, ⟨h1, h2⟩, h3⟩ := key
  refine ⟨r, h3, h1, ?_⟩
  rcases h2 with ⟨q1, q2⟩ | q
  · exact Or.inl ⟨q1, fun S hS => q2 S hS.1 hS⟩
  · exact Or.inr q
theorem chg_xor {S K G : Nat} (hS : S &&& G = 0) : pc (adn (S ^^^ K) G) = chg (adn K G) S := by
  unfold chg
  rw [← pc_disj (and_zero.mpr (fun i hi => by
    rw [adn_bit, Bool.and_eq_true] at hi
    rw [adn_bit, hi.1]
    simp))]
  congr 1
  apply Nat.eq_of_testBit_eq
  intro i
  simp only [Nat.testBit_or, adn_bit, Nat.testBit_xor]
  have := and_zero.mp hS i
  revert this
  cases S.testBit i <;> cases K.testBit i <;> cases G.testBit i <;> decide
theorem m_steady (h : MP g n W G wk dr ct lw nd as) {K : Nat} (hK : K < 65536) (h50 : gi g 0 50 = nI K) :
    ∃ r, fixN (F_X7_steady_10B g) FU (-1, 0, 0) = some (r, g) ∧ ((r = -1 ∧ ∀ S, ¬ Pcm n W G dr ct lw nd as S) ∨ (∃ S, r = nI S ∧ Bi (Pcm n W G dr ct lw nd as) (adn K G) (2 ^ n) S)) := by
  have hn := h.1
  have h2n : 2 ^ n ≤ 65536 := Nat.pow_le_pow_right (n := 2) (by decide) hn
  obtain ⟨i1, i2⟩ := h.rows
  have hG := h.2.2.2.2.1.1
  have h49 := h.2.2.2.2.1.2
  have key : ∃ r : Int32 × GM, (r.2 = g ∧ ((r.1 = -1 ∧ ∀ S, S < 2 ^ n → ¬ Pcm n W G dr ct lw nd as S) ∨ (∃ S, r.1 = nI S ∧ Bi (Pcm n W G dr ct lw nd as) (adn K G) (2 ^ n) S))) ∧ fixN (F_X7_steady_10B g) FU (-1, nI 0, nI 0) = some r := by
    refine fix_inv (I := fun i st => (∃ x2, st = (-1, x2, nI i) ∧ ∀ S, S < i → ¬ Pcm n W G dr ct lw nd as S) ∨ (∃ S, st = (nI S, nI (chg (adn K G) S), nI i) ∧ Bi (Pcm n W G dr ct lw nd as) (adn K G) i S)) (R := fun (r : Int32 × GM) => r.2 = g ∧ ((r.1 = -1 ∧ ∀ S, S < 2 ^ n → ¬ Pcm n W G dr ct lw nd as S) ∨ (∃ S, r.1 = nI S ∧ Bi (Pcm n W G dr ct lw nd as) (adn K G) (2 ^ n) S))) (2 ^ n) ?_ ?_ (2 ^ n) 0 FU (-1, nI 0, nI 0) (by omega) (by show 2 ^ n < 70000; omega) (Or.inl ⟨_, rfl, fun S hS => by omega⟩)
    · rintro i st hi hc
      obtain ⟨p1, p2⟩ := m_isPiece h hi
      have hpi := pc_le i
      have hx16 : i ^^^ K < 65536 := Nat.xor_lt_two_pow (n := 16) (by omega) hK
      have hxa : adn (i ^^^ K) G < 2 ^ 16 := adn_lt hx16
      have hpx := pc_le (adn (i ^^^ K) G)
      have hnum : F_X7_bitsOf ((nI i ^^^ gi g 0 50) &&& (gi g 0 49 ^^^ (-1))) = some (nI (pc (adn (i ^^^ K) G))) := by
        rw [h50, h49, nI_xor, nI_adn _ _ (by omega), m_bitsOf (by omega)]
      have hPe : Pcm n W G dr ct lw nd as i → pc (adn (i ^^^ K) G) = chg (adn K G) i := fun hP => chg_xor hP.2.1
      refine Or.inl ?_
      rcases hc with ⟨x2, rfl, hno⟩ | ⟨S, rfl, hB⟩
      · have step : ∀ kb, F_X7_steady_10B g kb (-1, x2, nI i) = (F_X7_isPiece (nI i) g).bind fun r => if r = 0 then kb (-1, x2, nI (i + 1)) else kb (nI i, nI (pc (adn (i ^^^ K) G)), nI (i + 1)) := by
          intro kb
          unfold F_X7_steady_10B F_X7_steady_53 F_X7_steady_107 F_X7_steady_112
          dsimp only
          rw [ck_true i1, i2, shl1 (by omega), if_neg (nI_ge hi (by omega)), hnum, Option.bind_some, lt_def, if_pos (by decide), if_pos (by decide), nI_1]
          rfl
        by_cases c : Pcm n W G dr ct lw nd as i
        · exact ⟨_, Or.inr ⟨i, rfl, by omega, c, fun S' s1 s2 s3 => (hno S' (by omega) s2).elim⟩, fun kb => by rw [step, p1 c, Option.bind_some, if_neg (by decide), hPe c]⟩
        · refine ⟨_, Or.inl ⟨x2, rfl, fun S hS => ?_⟩, fun kb => by rw [step, p2 c, Option.bind_some, if_pos rfl]⟩
          by_cases e : S = i
          · subst e; exact c
          · exact hno S (by omega)
      · have hSi := hB.1
        have hpS := pc_le S
        have hcS : chg (adn K G) S ≤ 32 := by
          unfold chg
          have := pc_le (adn S (adn K G))
          have := pc_le (adn (adn K G) S)
          omega
        obtain ⟨a1, a2⟩ := m_isAhead (a := i) (b := S) (by omega) (by omega)
        have step : ∀ kb, F_X7_steady_10B g kb (nI S, nI (chg (adn K G) S), nI i) = if chg (adn K G) S < pc (adn (i ^^^ K) G) then kb (nI S, nI (chg (adn K G) S), nI (i + 1)) else (F_X7_isPiece (nI i) g).bind fun r => if r = 0 then kb (nI S, nI (chg (adn K G) S), nI (i + 1)) else if pc (adn (i ^^^ K) G) = chg (adn K G) S then (if pc S < pc i then kb (nI S, nI (chg (adn K G) S), nI (i + 1)) else if pc i = pc S then (F_X7_isAhead (nI i) (nI S)).bind fun r => if r = 0 then kb (nI S, nI (chg (adn K G) S), nI (i + 1)) else kb (nI i, nI (pc (adn (i ^^^ K) G)), nI (i + 1)) else kb (nI i, nI (pc (adn (i ^^^ K) G)), nI (i + 1))) else kb (nI i, nI (pc (adn (i ^^^ K) G)), nI (i + 1)) := by
          intro kb
          unfold F_X7_steady_10B F_X7_steady_53 F_X7_steady_107 F_X7_steady_112
          dsimp only
          rw [ck_true i1, i2, shl1 (by omega), if_neg (nI_ge hi (by omega)), hnum, Option.bind_some, lt_def, if_neg (nI_neg (by omega)), if_neg (nI_neg (by omega)), m_bitsOf (by omega), m_bitsOf (by omega), nI_1]
          simp only [Option.bind_some, nI_ltI (show chg (adn K G) S < 2 ^ 31 by omega) (show pc (adn (i ^^^ K) G) < 2 ^ 31 by omega), nI_eq (show pc (adn (i ^^^ K) G) < 2 ^ 31 by omega) (show chg (adn K G) S < 2 ^ 31 by omega), nI_ltI (show pc S < 2 ^ 31 by omega) (show pc i < 2 ^ 31 by omega), nI_eq (show pc i < 2 ^ 31 by omega) (show pc S < 2 ^ 31 by omega), lt_def]
        by_cases c : Pcm n W G dr ct lw nd as i
        · rw [hPe c] at step
          by_cases c1 : chg (adn K G) S < chg (adn K G) i
          · exact ⟨_, Or.inr ⟨S, rfl, hB.keep (Or.inr (Or.inl c1))⟩, fun kb => by rw [step, if_pos c1]⟩
          · by_cases c2 : chg (adn K G) i = chg (adn K G) S
            · by_cases c3 : pc S < pc i
              · exact ⟨_, Or.inr ⟨S, rfl, hB.keep (Or.inr (Or.inr ⟨c2.symm, Or.inl c3⟩))⟩, fun kb => by rw [step, if_neg c1, p1 c, Option.bind_some, if_neg (by decide), if_pos c2, if_pos c3]⟩
              · by_cases c4 : pc i = pc S
                · by_cases c5 : Ah i S
                  · exact ⟨_, Or.inr ⟨i, rfl, hB.new c (Or.inr ⟨c2, Or.inr ⟨c4, c5⟩⟩)⟩, fun kb => by rw [step, if_neg c1, p1 c, Option.bind_some, if_neg (by decide), if_pos c2, if_neg c3, if_pos c4, a1 c5, Option.bind_some, if_neg (by decide)]⟩
                  · have c6 : Ah S i := (Ah.tot (a := i) (b := S) (by omega)).resolve_left c5
                    exact ⟨_, Or.inr ⟨S, rfl, hB.keep (Or.inr (Or.inr ⟨c2.symm, Or.inr ⟨c4.symm, c6⟩⟩))⟩, fun kb => by rw [step, if_neg c1, p1 c, Option.bind_some, if_neg (by decide), if_pos c2, if_neg c3, if_pos c4, a2 c5, Option.bind_some, if_pos rfl]⟩
                · exact ⟨_, Or.inr ⟨i, rfl, hB.new c (Or.inr ⟨c2, Or.inl (by omega)⟩)⟩, fun kb => by rw [step, if_neg c1, p1 c, Option.bind_some, if_neg (by decide), if_pos c2, if_neg c3, if_neg c4]⟩
            · exact ⟨_, Or.inr ⟨i, rfl, hB.new c (Or.inl (by omega))⟩, fun kb => by rw [step, if_neg c1, p1 c, Option.bind_some, if_neg (by decide), if_neg c2]⟩
        · exact ⟨_, Or.inr ⟨S, rfl, hB.keep (Or.inl c)⟩, fun kb => by
            rw [step, p2 c, Option.bind_some, if_pos rfl]
            split <;> rfl⟩
    · rintro st (⟨x2, rfl, hno⟩ | ⟨S, rfl, hB⟩)
      · refine ⟨(-1, g), ⟨rfl, Or.inl ⟨rfl, hno⟩⟩, fun kb => ?_⟩
        unfold F_X7_steady_10B
        dsimp only
        rw [ck_true i1, i2, shl1 (by omega), if_pos (nI_le (Nat.le_refl _) (by omega))]
      · refine ⟨(nI S, g), ⟨rfl, Or.inr ⟨S, rfl, hB⟩⟩, fun kb => ?_⟩
        unfold F_X7_steady_10B
        dsimp only
        rw [ck_true i1, i2, shl1 (by omega), if_pos (nI_le (Nat.le_refl _) (by omega))]
  obtain ⟨⟨r, g'⟩, ⟨h1, h2⟩, h3⟩ := key
  dsimp only at h1 h2
  subst h1
  refine ⟨r, h3, ?_⟩
  rcases h2 with ⟨q1, q2⟩ | q
  · exact Or.inl ⟨q1, fun S hS => q2 S hS.1 hS⟩
  · exact Or.inr q
end KNOW
