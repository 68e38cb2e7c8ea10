/-! calls: why, gone -/
section OPS3
variable {gx gm : GM} {len : Nat} {tx : Nat → Nat} {b wb : Nat} {S : St} {D : Dm} {P N z G K : Nat}
/-- a row's number, or none -/
theorem x_hasRow (h : SS 6 b gx gm S) (h23 : gi gm 0 23 = nI b) (x : Int32) : (F_X2_hasRow_s x gx = some 0 ∧ F_X7_isRow x gm = some 0) ∨ ∃ j, j < sR S ∧ x = nI j ∧ F_X2_hasRow_s x gx = some 1 ∧ F_X7_isRow x gm = some 1 := by
  have n16 := h.r16
  unfold F_X2_hasRow_s F_X2_hasRow_s_16 F_X7_isRow F_X7_isRow_21
  rw [n16.2.1, h23, ck_true (inB_nI n16.2.2.2.1 (by decide)), nI_clamp (by omega), n16.2.2.1]
  rcases pk_ix x (show sR S < 2 ^ 31 by omega) with d | d | ⟨j, d1, d2⟩
  · left; rw [if_pos d]; exact ⟨rfl, rfl⟩
  · left; rw [if_pos d]; exact ⟨by split <;> rfl, by split <;> rfl⟩
  · right
    refine ⟨j, d1, d2, ?_, ?_⟩
    · rw [d2, if_neg (nI_pos (by omega)), if_neg (nI_ge d1 (by omega))]
    · rw [d2, if_neg (nI_pos (by omega)), if_neg (nI_ge d1 (by omega))]
theorem x_linked (h : SS 6 b gx gm S) {x : Int32} {p : Nat → Bool} (hx : ∀ q, q < sR S → x.toBitVec.getLsbD q = p q) {j : Nat} (hj : j < 16) : ((∀ q, q < sR S → ¬ (p q = true ∧ (lkc S q 5).testBit j = true)) → F_X2_isLinkedFrom_s x (nI j) gx = some 0) ∧ (¬ (∀ q, q < sR S → ¬ (p q = true ∧ (lkc S q 5).testBit j = true)) → F_X2_isLinkedFrom_s x (nI j) gx = some 1) := by
  have n16 := h.r16
  have step : ∀ i, i < sR S → ∀ kb, F_X2_isLinkedFrom_s_2B x (nI j) gx kb (nI i) = if p i = true ∧ (lkc S i 5).testBit j = true then some 1 else kb (nI (i + 1)) := by
    intro i hi kb
    have hll := lkc_lt S i 5
    unfold F_X2_isLinkedFrom_s_2B F_X2_isLinkedFrom_s_33
    rw [n16.2.1, if_neg (nI_ge hi (by omega)), x_has2 x (by omega), Option.bind_some, hx i hi, ck_true (inB_nI (by omega) (by decide)), nI_clamp (by omega), h.2.2.2.2 i hi, x_has (p16 n16.1 hll) (by omega), Option.bind_some, lt_def, nI_1]
    cases p i with
    | false => simp
    | true =>
      cases (lkc S i 5).testBit j with
      | false => simp
      | true => simp
  exact fix_chk0 (B := F_X2_isLinkedFrom_s_2B x (nI j) gx) (fun i => nI i) (sR S) (fun q => ¬ (p q = true ∧ (lkc S q 5).testBit j = true)) (some 0) (some 1) (fun i hi hP kb => by rw [step i hi, if_neg hP]) (fun i hi hP kb => by rw [step i hi, if_pos (Classical.byContradiction hP)]) (fun kb => by
    unfold F_X2_isLinkedFrom_s_2B
    rw [n16.2.1, if_pos (nI_le (Nat.le_refl _) (by omega))]) (by omega)
theorem pc_bit {f s j : Nat} (hj : j < 16) (hs : s.testBit j = true) : pc (f &&& adn s (2 ^ j)) + (if f.testBit j = true then 1 else 0) = pc (f &&& s) := by
  have h1 := pc_split (f &&& s) (2 ^ j)
  have e1 : adn (f &&& s) (2 ^ j) = f &&& adn s (2 ^ j) := by
    apply Nat.eq_of_testBit_eq
    intro i
    rw [adn_bit, Nat.testBit_and, Nat.testBit_and, adn_bit, Bool.and_assoc]
  rw [e1] at h1
  have e2 : pc ((f &&& s) &&& 2 ^ j) = if f.testBit j = true then 1 else 0 := by
    have e3 : (f &&& s) &&& 2 ^ j = if f.testBit j = true then 2 ^ j else 0 := by
      apply Nat.eq_of_testBit_eq
      intro i
      rw [Nat.testBit_and, Nat.testBit_and, two_bit]
      by_cases e : j = i
      · subst e
        rw [hs]
        cases f.testBit j <;> simp [two_bit]
      · have : (if f.testBit j = true then 2 ^ j else 0).testBit i = false := by
          split
          · rw [two_bit]; simp [e]
          · exact Nat.zero_testBit i
        rw [this]; simp [e]
    rw [e3]
    split
    · have : ∀ j, j < 16 → pc (2 ^ j) = 1 := by decide +kernel
      exact this j hj
    · rfl
  omega
theorem o_why (h : INV gx gm) (a1 a2 a3 a4 a5 : Int32) : ∃ gx' gm', op_why a1 a2 a3 a4 a5 gx gm = some (gx', gm') ∧ INV gx' gm' := by
  obtain ⟨len, tx, b, wb, S, D, P, N, z, G, K, h⟩ := h
  have n16 := h.2.1.1.r16
  obtain ⟨gx1, r, q1, q2, q3, q4, q5⟩ := h.lx
  have eX : F_X6_why a1 gx = if r = -1 then some ((-1 : Int32), gx1) else (F_X2_hasRow_s a1 gx1).bind fun r_4 => if r_4 = 0 then some (-1, gx1) else (F_X6_has r a1).bind fun r_5 => if r_5 = 0 then some (0, gx1) else lt (r &&& (((1 : Int32) <<< (a1 &&& 31)) ^^^ (-1))) fun x3_6 => (F_X1_wishesMetBy_d x3_6 gx1).bind fun r_7 => if r_7 = 0 then some (1, gx1) else (F_X2_isLinkedFrom_s x3_6 a1 gx1).bind fun r_8 => if r_8 = 0 then some (3, gx1) else some (2, gx1) := by
    unfold F_X6_why
    rw [q1, Option.bind_some]
    dsimp only
    rw [lt_def]
  unfold op_why
  rcases x_hasRow q3.2.1.1 q3.2.1.2.1 a1 with ⟨e1, e2⟩ | ⟨j, hj, ej, e1, e2⟩
  · refine ⟨gx1, gm, ?_, len, tx, b, wb, S, D, P, N, z, G, K, q3⟩
    have eX2 : F_X6_why a1 gx = some (-1, gx1) := by
      rw [eX, e1, Option.bind_some, if_pos (show (0 : Int32) = 0 from rfl)]
      split <;> rfl
    rw [eX2, Option.bind_some]
    dsimp only
    unfold F_X7_why
    rw [e2, Option.bind_some, if_pos rfl, Option.bind_some]
    dsimp only
    rw [if_pos rfl]
  · subst ej
    obtain ⟨gm1, b1, b2, b3, b4⟩ := q3.km
    have er : gi gm1 0 51 = r := b2.uniq q2
    have eM : F_X7_why (nI j) gm = if 0 ≤ r then if ((r >>> (nI j &&& 31)) &&& 1) = 0 then some (0, gm1) else fixN (F_X7_why_32B (nI j) gm1) FU 0 else some (-1, gm1) := by
      unfold F_X7_why F_X7_least
      rw [e2, Option.bind_some, if_neg (by decide), b1, Option.bind_some, Option.bind_some]
      dsimp only
      rw [er]
    refine ⟨gx1, gm1, ?_, len, tx, b, wb, S, D, P, N, z, G, K, b3⟩
    rcases q2.cs n16.1 with ⟨k1, k2⟩ | ⟨s, k1, k2, k3, k4, k5⟩
    · rw [eX, if_pos k1, Option.bind_some]
      dsimp only
      rw [eM, if_neg k2, Option.bind_some]
      dsimp only
      rw [if_pos rfl]
    · have h16 := p16 n16.1 k2
      rw [if_neg k5, e1, Option.bind_some, if_neg (by decide)] at eX
      rw [if_pos k4] at eM
      subst k1
      rw [x_has h16 (by omega), Option.bind_some] at eX
      by_cases cb : s.testBit j = true
      · rw [if_pos cb, if_neg (by decide), lt_def, shl1 (by omega), nI_adn _ _ (by omega)] at eX
        rw [if_neg (fun q => by rw [(bit0 h16 (by omega)).mp q] at cb; cases cb)] at eM
        -- the wishes
        obtain ⟨⟨c1, c2, m, ow, nd, hp, c3, c4, c5, c6⟩, c7, c8⟩ := q3.2.2.1
        have hDS := q3.2.1.2.2.2.2.2.1
        have hoth : adn s (2 ^ j) < 2 ^ sR S := adn_lt k2
        have hsG : adn s (2 ^ j) &&& G = 0 := and_zero.mpr (fun i hi => and_zero.mp k3.2.1 i (adn_sub _ _ i hi))
        have hm160 : m ≤ 160 := by have := hDS.1; omega
        have stepX : ∀ i, i < m → ∀ kb, F_X1_wishesMetBy_d_2B (nI (adn s (2 ^ j))) gx1 kb (nI i) = if ow i = 0 then (if nd i ≤ pc (hp i &&& adn s (2 ^ j)) then kb (nI (i + 1)) else some 0) else kb (nI (i + 1)) := by
          intro i hi kb
          obtain ⟨d1, d2, d3⟩ := c6.bnd hDS low_le hi
          obtain ⟨f1, f2, f3⟩ := c5 i hi
          have hpc := pc_le (hp i &&& adn s (2 ^ j))
          unfold F_X1_wishesMetBy_d_2B F_X1_wishesMetBy_d_41
          rw [c3, if_neg (nI_ge hi (by omega)), ck_true (inB_nI (by omega) (by decide)), nI_clamp (by omega), f1, f2, f3, nI_and, j_bitCount (and_lt16 (p16 n16.1 d3)), ck_true (inB_nI (by omega) (by decide)), Option.bind_some, ck_true (inB_nI (by omega) (by decide)), lt_def, nI_1]
          simp only [nI_z (p16 n16.1 d1), nI_leI (show nd i < 2 ^ 31 by omega) (show pc (hp i &&& adn s (2 ^ j)) < 2 ^ 31 by omega)]
        have hWX := fix_chk0 (B := F_X1_wishesMetBy_d_2B (nI (adn s (2 ^ j))) gx1) (fun i => nI i) m (fun i => ow i = 0 → nd i ≤ pc (hp i &&& adn s (2 ^ j))) (some 1) (some 0) (fun i hi hP kb => by
          rw [stepX i hi]
          by_cases c : ow i = 0
          · rw [if_pos c, if_pos (hP c)]
          · rw [if_neg c]) (fun i hi hP kb => by
          rw [stepX i hi]
          have c : ow i = 0 := Classical.byContradiction (fun c => hP (fun c' => absurd c' c))
          rw [if_pos c, if_neg (fun q => hP (fun _ => q))]) (fun kb => by
          unfold F_X1_wishesMetBy_d_2B
          rw [c3, if_pos (nI_le (Nat.le_refl _) (by omega))]) (by omega)
        have hlk := x_linked (j := j) q3.2.1.1 (x := nI (adn s (2 ^ j))) (p := fun q => (adn s (2 ^ j)).testBit q) (fun q hq => nI_lsb (by omega)) (by omega)
        -- the reference's loops
        have hW10 := hDS.1
        obtain ⟨g1, g23, gwb, g37, g14, gDS, gDK, _⟩ := b3.2.1
        have stepK : ∀ i, i < dW D → ∀ kb, F_X7_why_32B (nI j) gm1 kb (nI i) = if dL D i = false ∧ (dF D i).testBit j = true ∧ pc (dF D i &&& s) ≤ dN D i then some (1, gm1) else kb (nI (i + 1)) := by
          intro i hi kb
          obtain ⟨d1, d2, d3, d4⟩ := gDK i hi
          obtain ⟨s1, s2, s3, s4, s5, s6⟩ := gDS.2 i hi
          have hf16 := p16 n16.1 s4
          have hpc := pc_le (dF D i &&& s)
          unfold F_X7_why_32B F_X7_why_103
          rw [g37, ck_true (inB_nI gwb (by decide)), nI_clamp (by omega), g14, if_neg (nI_ge hi (by omega)), l10, nI_add, lt_def, ck_true (inB_nI (by omega) (by decide)), nI_clamp (by omega), ck_true (inB_nI (by omega) (by decide)), nI_clamp (by omega), (b4.2 i hi).1, er, nI_and, m_bitsOf (by have := and_lt16 (b := s) hf16; omega), ck_true (inB_nI (by omega) (by decide)), Option.bind_some, ck_true (inB_nI (by omega) (by decide)), d2, lt_def, nI_1]
          simp only [bit1 hf16 (show j < 31 by omega), nI_ltI (show dN D i < 2 ^ 31 by omega) (show pc (dF D i &&& s) < 2 ^ 31 by omega)]
          by_cases ql : dL D i = true
          · have fu := (s6 ql).1
            rw [(d3 ql).1, if_pos (nI_pos' (by omega)), if_neg (fun x => by rw [ql] at x; cases x.1)]
          · have ql' : dL D i = false := by simpa using ql
            rw [(d4 ql').1, if_neg (by decide)]
            by_cases c1 : (dF D i).testBit j = true
            · rw [if_pos c1]
              by_cases c2 : dN D i < pc (dF D i &&& s)
              · rw [if_pos c2, if_neg (fun x => by have := x.2.2; omega)]
              · rw [if_neg c2, if_pos ⟨ql', c1, by omega⟩]
            · rw [if_neg c1, if_neg (fun x => c1 x.2.1)]
        have stepR : ∀ i, i < sR S → ∀ kb, F_X7_why_111B (nI j) gm1 kb (nI i) = if ¬ i = j ∧ s.testBit i = true ∧ (lkc S i 5).testBit j = true then some (2, gm1) else kb (nI (i + 1)) := by
          intro i hi kb
          have hll := lkc_lt S i 5
          unfold F_X7_why_111B F_X7_why_157
          rw [g23, ck_true (inB_nI n16.2.2.2.1 (by decide)), nI_clamp (by omega), g1.r16.2.2.1, if_neg (nI_ge hi (by omega)), er, ck_true (inB_nI (by omega) (by decide)), nI_clamp (by omega), b4.1 i hi, lt_def, nI_1]
          simp only [nI_eq (show i < 2 ^ 31 by omega) (show j < 2 ^ 31 by omega), bit1 h16 (show i < 31 by omega), bit1 (p16 n16.1 hll) (show j < 31 by omega)]
          by_cases c1 : i = j
          · rw [if_pos c1, if_neg (fun x => x.1 c1)]
          · rw [if_neg c1]
            by_cases c2 : s.testBit i = true
            · rw [if_pos c2]
              by_cases c3 : (lkc S i 5).testBit j = true
              · rw [if_pos c3, if_pos ⟨c1, c2, c3⟩]
              · rw [if_neg c3, if_neg (fun x => c3 x.2.2)]
            · rw [if_neg c2, if_neg (fun x => c2 x.2.1)]
        have hRM := fix_chk0 (B := F_X7_why_111B (nI j) gm1) (fun i => nI i) (sR S) (fun i => ¬ (¬ i = j ∧ s.testBit i = true ∧ (lkc S i 5).testBit j = true)) (some (3, gm1)) (some (2, gm1)) (fun i hi hP kb => by rw [stepR i hi, if_neg hP]) (fun i hi hP kb => by rw [stepR i hi, if_pos (Classical.byContradiction hP)]) (fun kb => by
          unfold F_X7_why_111B
          rw [g23, ck_true (inB_nI n16.2.2.2.1 (by decide)), nI_clamp (by omega), g1.r16.2.2.1, if_pos (nI_le (Nat.le_refl _) (by omega))]) (by omega)
        have hKM := fix_chk0 (B := F_X7_why_32B (nI j) gm1) (fun i => nI i) (dW D) (fun i => ¬ (dL D i = false ∧ (dF D i).testBit j = true ∧ pc (dF D i &&& s) ≤ dN D i)) (fixN (F_X7_why_111B (nI j) gm1) FU 0) (some (1, gm1)) (fun i hi hP kb => by rw [stepK i hi, if_neg hP]) (fun i hi hP kb => by rw [stepK i hi, if_pos (Classical.byContradiction hP)]) (fun kb => by
          unfold F_X7_why_32B
          rw [g37, ck_true (inB_nI gwb (by decide)), nI_clamp (by omega), g14, if_pos (nI_le (Nat.le_refl _) (by omega))]) (by omega)
        have eqW : (∀ i, i < m → ow i = 0 → nd i ≤ pc (hp i &&& adn s (2 ^ j))) ↔ ∀ i, i < dW D → ¬ (dL D i = false ∧ (dF D i).testBit j = true ∧ pc (dF D i &&& s) ≤ dN D i) := by
          constructor
          · rintro hx i hi ⟨x1, x2, x3⟩
            obtain ⟨jj, j1, j2, j3, j4⟩ := c6.2 i hi 0 (dN D i) (adn (dF D i) G) (Or.inl ⟨x1, rfl, rfl, rfl⟩)
            have := hx jj j1 j2
            rw [j3, j4, adn_and hsG] at this
            have hb := pc_bit (f := dF D i) (show j < 16 by omega) cb
            rw [if_pos x2] at hb
            omega
          · intro hx i hi h0
            obtain ⟨k, t1, t2⟩ := c6.1 i hi
            rcases t2 with ⟨y1, y2, y3, y4⟩ | ⟨y1, rr, y2, y3, y4, _⟩
            · have hw := (k3.2.2.2 k t1).1 y1
              rw [y3, y4, adn_and hsG]
              have hb := pc_bit (f := dF D k) (show j < 16 by omega) cb
              by_cases x2 : (dF D k).testBit j = true
              · have := hx k t1
                rw [if_pos x2] at hb
                have : ¬ pc (dF D k &&& s) ≤ dN D k := fun q => this ⟨y1, x2, q⟩
                omega
              · rw [if_neg x2] at hb
                omega
            · rw [y4] at h0; exact absurd h0 (two_ne rr)
        have eqL : (∀ q, q < sR S → ¬ ((adn s (2 ^ j)).testBit q = true ∧ (lkc S q 5).testBit j = true)) ↔ ∀ i, i < sR S → ¬ (¬ i = j ∧ s.testBit i = true ∧ (lkc S i 5).testBit j = true) := by
          constructor
          · rintro hx i hi ⟨x1, x2, x3⟩
            refine hx i hi ⟨?_, x3⟩
            rw [adn_bit, x2, two_bit]
            simp [Ne.symm x1]
          · rintro hx i hi ⟨x1, x2⟩
            rw [adn_bit, two_bit] at x1
            simp at x1
            exact hx i hi ⟨fun q => x1.2 q.symm, x1.1, x2⟩
        by_cases cW : ∀ i, i < m → ow i = 0 → nd i ≤ pc (hp i &&& adn s (2 ^ j))
        · have w1 : F_X1_wishesMetBy_d (nI (adn s (2 ^ j))) gx1 = some 1 := hWX.1 cW
          have w2 : fixN (F_X7_why_32B (nI j) gm1) FU 0 = fixN (F_X7_why_111B (nI j) gm1) FU 0 := hKM.1 (eqW.mp cW)
          rw [w1, Option.bind_some, if_neg (by decide)] at eX
          rw [w2] at eM
          by_cases cL : ∀ q, q < sR S → ¬ ((adn s (2 ^ j)).testBit q = true ∧ (lkc S q 5).testBit j = true)
          · have v2 : fixN (F_X7_why_111B (nI j) gm1) FU 0 = some (3, gm1) := hRM.1 (eqL.mp cL)
            rw [hlk.1 cL, Option.bind_some, if_pos rfl] at eX
            rw [eX, Option.bind_some]
            dsimp only
            rw [eM, v2, Option.bind_some]
            dsimp only
            rw [if_pos rfl]
          · have v2 : fixN (F_X7_why_111B (nI j) gm1) FU 0 = some (2, gm1) := hRM.2 (fun q => cL (eqL.mpr q))
            rw [hlk.2 cL, Option.bind_some, if_neg (by decide)] at eX
            rw [eX, Option.bind_some]
            dsimp only
            rw [eM, v2, Option.bind_some]
            dsimp only
            rw [if_pos rfl]
        · have w1 : F_X1_wishesMetBy_d (nI (adn s (2 ^ j))) gx1 = some 0 := hWX.2 cW
          have w2 : fixN (F_X7_why_32B (nI j) gm1) FU 0 = some (1, gm1) := hKM.2 (fun q => cW (eqW.mpr q))
          rw [w1, Option.bind_some, if_pos rfl] at eX
          rw [eX, Option.bind_some]
          dsimp only
          rw [eM, w2, Option.bind_some]
          dsimp only
          rw [if_pos rfl]
      · rw [if_neg cb, if_pos rfl] at eX
        rw [if_pos ((bit0 h16 (by omega)).mpr (by simpa using cb))] at eM
        rw [eX, Option.bind_some]
        dsimp only
        rw [eM, Option.bind_some]
        dsimp only
        rw [if_pos rfl]
end OPS3
