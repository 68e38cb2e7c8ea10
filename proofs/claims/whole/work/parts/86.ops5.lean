/-! calls: fault, row, value, holds, hide, shown, about -/
section OPS5
variable {gx gm : GM} {len : Nat} {tx : Nat → Nat} {b wb : Nat} {S : St} {D : Dm} {P N z G K : Nat}
theorem o_fault (h : INV gx gm) (a1 a2 a3 a4 a5 : Int32) : ∃ gx' gm', op_fault a1 a2 a3 a4 a5 gx gm = some (gx', gm') ∧ INV gx' gm' := by
  refine ⟨gx, gm, ?_, h⟩
  obtain ⟨len, tx, b, wb, S, D, P, N, z, G, K, hA, _⟩ := h
  unfold op_fault F_X6_fault F_X7_fault
  rw [hA.2.2.1, hA.2.2.2]
  by_cases c0 : a1 = 0
  · rw [if_pos c0, Option.bind_some, Option.bind_some, if_pos rfl]
  · rw [if_neg c0]
    by_cases c1 : a1 = 1
    · rw [if_pos c1, Option.bind_some, Option.bind_some, if_pos rfl]
    · rw [if_neg c1, Option.bind_some, Option.bind_some, if_pos rfl]
theorem o_row (h : INV gx gm) (a1 a2 a3 a4 a5 : Int32) : ∃ gx' gm', op_row a1 a2 a3 a4 a5 gx gm = some (gx', gm') ∧ INV gx' gm' := by
  refine ⟨gx, gm, ?_, h⟩
  obtain ⟨len, tx, b, wb, S, D, P, N, z, G, K, hA, hB, hC, hK, hY, hL, hS, hM⟩ := h
  have n16 := hB.1.r16
  have hG16 := p16 n16.1 hB.2.2.2.2.2.2.2.2.2.1
  have h49 := hB.2.2.2.2.2.2.2.2.2.2
  unfold op_row F_X6_row F_X7_row
  rcases x_hasRow hB.1 hB.2.1 a1 with ⟨e1, e2⟩ | ⟨j, hj, ej, e1, e2⟩
  · rw [e1, e2, Option.bind_some, Option.bind_some, if_pos rfl, if_pos rfl, Option.bind_some, Option.bind_some, if_pos rfl]
  · subst ej
    obtain ⟨w1, w2, w3, w4, w5, w6, w7⟩ := hB.1.rw hj
    have qs : nI (5 * b + sB S j) - 5 * nI b = nI (sB S j) := by rw [l5, nI_sub (by omega)]; congr 1; omega
    rw [e1, e2, Option.bind_some, Option.bind_some, if_neg (show ¬ (1 : Int32) = 0 by decide), if_neg (show ¬ (1 : Int32) = 0 by decide), ck_true (inB_nI (by omega) (by decide)), ck_true (inB_nI (by omega) (by decide)), nI_clamp (by omega), w3, w5, hC.2.1, x_has hG16 (by omega), Option.bind_some, m_tableAt hB.1 hB.2.1 hj, Option.bind_some, hB.2.1, qs, m_numberAt hB.1 hB.2.1 hj, Option.bind_some, h49, nI_bit (by omega) (by omega), bitv]
    by_cases c0 : a2 = 0
    · rw [if_pos c0, if_pos c0, Option.bind_some, Option.bind_some, if_pos rfl]
    · rw [if_neg c0, if_neg c0]
      by_cases c1 : a2 = 1
      · rw [if_pos c1, if_pos c1, Option.bind_some, Option.bind_some, if_pos rfl]
      · rw [if_neg c1, if_neg c1]
        by_cases c2 : a2 = 2
        · rw [if_pos c2, if_pos c2]
          cases G.testBit j
          · rfl
          · rfl
        · rw [if_neg c2, if_neg c2, Option.bind_some, Option.bind_some, if_pos rfl]
/-- value() on both sides -/
theorem i_value (h : SS 6 b gx gm S) (h23 : gi gm 0 23 = nI b) (x y : Int32) : (F_X2_cell_s x y gx = some (-1) ∧ F_X7_value x y gm = some (-1)) ∨ ∃ j c, j < sR S ∧ c < sC S (sB S j) ∧ x = nI j ∧ y = nI c ∧ F_X2_cell_s x y gx = some (cd 0 (jc S j c)) ∧ F_X7_value x y gm = some (cd 0 (jc S j c)) ∧ F_X7_hasColumn x y gm = some 1 := by
  have n16 := h.r16
  rcases x_hasRow h h23 x with ⟨e1, e2⟩ | ⟨j, hj, ej, e1, e2⟩
  · left
    refine ⟨?_, ?_⟩
    · unfold F_X2_hasRow_s F_X2_hasRow_s_16 at e1
      unfold F_X2_cell_s
      by_cases c1 : x < 0
      · rw [if_pos c1]
      · rw [if_neg c1] at e1 ⊢
        by_cases c2 : gi gx 6 6 ≤ x
        · rw [if_pos c2]
        · rw [if_neg c2] at e1
          exact absurd e1 (by decide)
    · unfold F_X7_value F_X7_hasColumn F_X7_hasColumn_30
      rw [e2, Option.bind_some, if_pos rfl, Option.bind_some, if_pos rfl]
  · subst ej
    obtain ⟨w1, _⟩ := h.rw hj
    obtain ⟨t1, t2, t3, t4, t5, t6⟩ := h.tb w1
    have cell : ∀ c, c < 5 → F_X2_cell_s (nI j) (nI c) gx = some (cd 0 (jc S j c)) := by
      intro c hc
      have := x_cell_s h (v := j + 1) (by omega) hc
      rw [cd0S, if_neg (by omega), Nat.add_sub_cancel] at this
      exact this
    have hcol : F_X7_hasColumn (nI j) y gm = if y < 0 then some 0 else if nI (sC S (sB S j)) ≤ y then some 0 else some 1 := by
      unfold F_X7_hasColumn F_X7_hasColumn_30
      rw [e2, Option.bind_some, if_neg (by decide), m_tableAt h h23 hj, Option.bind_some, ck_true (inB_nI (by omega) (by decide)), nI_clamp (by omega), t3]
    rcases pk_ix y (show sC S (sB S j) < 2 ^ 31 by omega) with d | d | ⟨c, d1, d2⟩
    · left
      refine ⟨?_, ?_⟩
      · unfold F_X2_cell_s
        rw [if_neg (nI_pos (by omega)), n16.2.1, if_neg (nI_ge hj (by omega)), if_pos d]
      · unfold F_X7_value
        rw [hcol, if_pos d, Option.bind_some, if_pos rfl]
    · left
      refine ⟨?_, ?_⟩
      · by_cases c0 : y < 0
        · unfold F_X2_cell_s
          rw [if_neg (nI_pos (by omega)), n16.2.1, if_neg (nI_ge hj (by omega)), if_pos c0]
        · obtain ⟨c, c1, c2⟩ := nI_of c0
          subst c2
          have hge := (nI_leI (by omega) c1).mp d
          by_cases c5 : c < 5
          · rw [cell c c5]
            have : jc S j c = 0 := by unfold jc; rw [if_neg (by omega)]
            rw [this]; rfl
          · unfold F_X2_cell_s
            rw [if_neg (nI_pos (by omega)), n16.2.1, if_neg (nI_ge hj (by omega)), if_neg c0, if_neg (show ¬ nI c < 5 from fun q => c5 ((nI_ltI (b := 5) c1 (by decide)).mp q))]
      · unfold F_X7_value
        rw [hcol, if_pos d]
        split <;> rfl
    · right
      subst d2
      rw [if_neg (nI_pos (by omega)), if_neg (nI_ge d1 (by omega))] at hcol
      refine ⟨j, c, hj, d1, rfl, rfl, cell c (by omega), ?_, hcol⟩
      unfold F_X7_value
      rw [hcol, Option.bind_some, if_neg (by decide), m_valueAt h h23 hj d1, Option.bind_some]
theorem o_value (h : INV gx gm) (a1 a2 a3 a4 a5 : Int32) : ∃ gx' gm', op_value a1 a2 a3 a4 a5 gx gm = some (gx', gm') ∧ INV gx' gm' := by
  refine ⟨gx, gm, ?_, h⟩
  obtain ⟨len, tx, b, wb, S, D, P, N, z, G, K, hA, hB, _⟩ := h
  unfold op_value F_X6_value
  rcases i_value hB.1 hB.2.1 a1 a2 with ⟨e1, e2⟩ | ⟨j, c, _, _, _, _, e1, e2, _⟩
  · rw [e1, Option.bind_some, Option.bind_some, e2, Option.bind_some, if_pos rfl]
  · rw [e1, Option.bind_some, Option.bind_some, e2, Option.bind_some, if_pos rfl]
theorem o_shown (h : INV gx gm) (a1 a2 a3 a4 a5 : Int32) : ∃ gx' gm', op_shown a1 a2 a3 a4 a5 gx gm = some (gx', gm') ∧ INV gx' gm' := by
  refine ⟨gx, gm, ?_, h⟩
  obtain ⟨len, tx, b, wb, S, D, P, N, z, G, K, hA, hB, hC, hK, hY, hL, hS, hM⟩ := h
  have n16 := hB.1.r16
  unfold op_shown F_X6_shown F_X7_shown
  rcases i_value hB.1 hB.2.1 a1 a2 with ⟨e1, e2⟩ | ⟨j, c, hj, hc, x1, x2, e1, e2, e3⟩
  · rw [e1, Option.bind_some, lt_def, if_pos rfl, Option.bind_some, e2, Option.bind_some, lt_def]
    -- whatever the key is: none stays none
    have hsh : ∀ k, F_X7_shown_41 (-1) k gm = some (-1) := fun k => by unfold F_X7_shown_41 F_X7_shown_52; rw [if_pos (by decide)]
    have hF : F_X7_hasColumn a1 a2 gm = some 0 ∨ (F_X7_hasColumn a1 a2 gm = some 1 ∧ ∃ j c, j < sR S ∧ c < sC S (sB S j) ∧ a1 = nI j ∧ a2 = nI c) := by
      rcases x_hasRow hB.1 hB.2.1 a1 with ⟨f1, f2⟩ | ⟨j, hj, ej, f1, f2⟩
      · left; unfold F_X7_hasColumn F_X7_hasColumn_30; rw [f2, Option.bind_some, if_pos rfl]
      · subst ej
        obtain ⟨w1, _⟩ := hB.1.rw hj
        obtain ⟨t1, t2, t3, t4, t5, t6⟩ := hB.1.tb w1
        have hcol : F_X7_hasColumn (nI j) a2 gm = if a2 < 0 then some 0 else if nI (sC S (sB S j)) ≤ a2 then some 0 else some 1 := by
          unfold F_X7_hasColumn F_X7_hasColumn_30
          rw [f2, Option.bind_some, if_neg (by decide), m_tableAt hB.1 hB.2.1 hj, Option.bind_some, ck_true (inB_nI (by omega) (by decide)), nI_clamp (by omega), t3]
        rcases pk_ix a2 (show sC S (sB S j) < 2 ^ 31 by omega) with d | d | ⟨c, d1, d2⟩
        · left; rw [hcol, if_pos d]
        · left; rw [hcol, if_pos d]; split <;> rfl
        · right
          subst d2
          rw [if_neg (nI_pos (by omega)), if_neg (nI_ge d1 (by omega))] at hcol
          exact ⟨hcol, j, c, hj, d1, rfl, rfl⟩
    rcases hF with f | ⟨f, j, c, hj, hc, x1, x2⟩
    · rw [f, Option.bind_some, if_pos rfl, hsh, Option.bind_some, if_pos rfl]
    · subst x1 x2
      obtain ⟨w1, _⟩ := hB.1.rw hj
      have hc5 := (hB.1.tb w1).1
      have qs : nI (5 * b + sB S j) - 5 * nI b = nI (sB S j) := by rw [l5, nI_sub (by omega)]; congr 1; omega
      rw [f, Option.bind_some, if_neg (by decide), m_tableAt hB.1 hB.2.1 hj, Option.bind_some, hB.2.1, qs, l5, nI_add, ck_true (inB_nI (by omega) (by decide)), hsh, Option.bind_some, if_pos rfl]
  · subst x1 x2
    obtain ⟨w1, w2, w3, _⟩ := hB.1.rw hj
    have hc5 := (hB.1.tb w1).1
    have hle := hB.1.jc1 (c := c) hj
    have qs : nI (5 * b + sB S j) - 5 * nI b = nI (sB S j) := by rw [l5, nI_sub (by omega)]; congr 1; omega
    obtain ⟨y1, k, y2, y3⟩ := hY (sB S j * 5 + c) (by omega)
    have e5 : 5 * sB S j + c = sB S j * 5 + c := by omega
    have hr : F_X2_hasRow_s (nI j) gx = some 1 := by
      unfold F_X2_hasRow_s
      rw [if_neg (nI_pos (by omega)), n16.2.1, if_neg (nI_ge hj (by omega))]
    rw [e1, e2, Option.bind_some, Option.bind_some, lt_def, lt_def, hr, Option.bind_some, if_neg (show ¬ (1 : Int32) = 0 by decide), ck_true (inB_nI (by omega) (by decide)), nI_clamp (by omega), w3, x_slot, Option.bind_some, ck_true (inB_nI (by omega) (by decide)), nI_clamp (by omega), lt_def, e3, Option.bind_some, if_neg (show ¬ (1 : Int32) = 0 by decide), m_tableAt hB.1 hB.2.1 hj, Option.bind_some, hB.2.1, qs, l5, nI_add, e5, ck_true (inB_nI (by omega) (by decide)), nI_clamp (by omega), ← y1, y3]
    unfold F_X7_shown_41 F_X7_shown_52 F_X6_turned
    simp only [cd_m hle, cd_neg (show 0 + jc S j c < 2 ^ 31 by omega), cd_m (show k ≤ 1000000 by omega), cd_nn (show 0 + k < 2 ^ 31 by omega), Option.bind_some]
    by_cases c1 : jc S j c = 0
    · rw [if_pos c1, if_pos c1, c1, Option.bind_some, Option.bind_some]
      rfl
    · rw [if_neg c1, if_neg c1]
      by_cases c2 : k = 0
      · rw [if_pos c2, if_neg (fun q => q c2), Option.bind_some, Option.bind_some, if_pos rfl]
      · rw [if_neg c2, if_pos c2, Option.bind_some, Option.bind_some, if_pos rfl]
/-- a plain column -/
theorem i_plain (h : SS 6 b gx gm S) (h23 : gi gm 0 23 = nI b) (x y : Int32) : (F_X2_isPlainColumn_s x y gx = some 0 ∧ F_X7_isPlain x y gm = some 0) ∨ ∃ t c, t < sT S ∧ c < sC S t ∧ sL S t c = 0 ∧ x = nI t ∧ y = nI c ∧ F_X2_isPlainColumn_s x y gx = some 1 ∧ F_X7_isPlain x y gm = some 1 := by
  have n16 := h.r16
  have g0 : gi gx 6 0 = nI (sT S) := h.1.2.2.1
  have g12 : gi gm 12 b = nI (sT S) := h.1.2.2.2.1
  have eX : F_X2_isPlainColumn_s x y gx = (F_X2_hasColumn_s x y gx).bind fun r_1 => if r_1 = 0 then some 0 else (F_X6_slot x y).bind fun r_2 => ckB (inB r_2 25) (if (gi gx 11 r_2.toNatClampNeg) = (-1) then some 1 else some 0) := rfl
  have zero : F_X2_hasColumn_s x y gx = some 0 → F_X2_isPlainColumn_s x y gx = some 0 := fun q => by rw [eX, q, Option.bind_some, if_pos rfl]
  unfold F_X7_isPlain F_X7_isPlain_62
  rw [h23, ck_true (inB_nI n16.2.2.2.1 (by decide)), nI_clamp (by omega), g12]
  rcases pk_ix x (show sT S < 2 ^ 31 by omega) with d | d | ⟨t, d1, d2⟩
  · left
    refine ⟨zero (by unfold F_X2_hasColumn_s F_X2_hasColumn_s_30; rw [if_pos d]), by rw [if_pos d]⟩
  · left
    refine ⟨zero (by unfold F_X2_hasColumn_s F_X2_hasColumn_s_30; rw [g0, if_pos d]; split <;> rfl), by rw [if_pos d]; split <;> rfl⟩
  · subst d2
    obtain ⟨t1, t2, t3, t4, t5, t6⟩ := h.tb d1
    rw [if_neg (nI_pos (by omega)), if_neg (nI_ge d1 (by omega)), l5, nI_add, ck_true (inB_nI (by omega) (by decide)), nI_clamp (by omega), t3]
    have hc : F_X2_hasColumn_s (nI t) y gx = if y < 0 then some 0 else if nI (sC S t) ≤ y then some 0 else some 1 := by
      unfold F_X2_hasColumn_s F_X2_hasColumn_s_30
      rw [if_neg (nI_pos (by omega)), g0, if_neg (nI_ge d1 (by omega)), ck_true (inB_nI (by omega) (by decide)), nI_clamp (by omega), t2]
    rcases pk_ix y (show sC S t < 2 ^ 31 by omega) with d | d | ⟨c, c1, c2⟩
    · left
      exact ⟨zero (by rw [hc, if_pos d]), by rw [if_pos d]⟩
    · left
      exact ⟨zero (by rw [hc, if_pos d]; split <;> rfl), by rw [if_pos d]; split <;> rfl⟩
    · subst c2
      obtain ⟨u1, u2, u3, u4⟩ := t6 c c1
      rw [if_neg (nI_pos (by omega)), if_neg (nI_ge c1 (by omega))] at hc ⊢
      rw [l5, nI_add, ck_true (inB_nI (by omega) (by decide)), nI_clamp (by omega), u4, eX, hc, Option.bind_some, if_neg (by decide), x_slot, Option.bind_some, ck_true (inB_nI (by omega) (by decide)), nI_clamp (by omega), u3]
      simp only [cd_m1 (show 0 + sL S t c < 65536 by omega), cd_nn (show 5 * b + sL S t c < 2 ^ 31 by omega)]
      by_cases l0 : sL S t c = 0
      · right
        exact ⟨t, c, d1, c1, l0, rfl, rfl, by rw [if_pos l0], by rw [if_neg (fun q => q l0)]⟩
      · left
        exact ⟨by rw [if_neg l0], by rw [if_pos l0]⟩
theorem key_of {x : Int32} (h1 : ¬ x < -1) (h2 : x ≤ 9999) : ∃ k, k ≤ 10000 ∧ x = cd 0 k := by
  by_cases c : x < 0
  · refine ⟨0, by omega, ?_⟩
    rw [cd0]
    apply Int32.toInt_inj.mp
    rw [Int32.lt_iff_toInt_lt] at h1 c
    rw [show (-1 : Int32).toInt = -1 by decide] at h1 ⊢
    rw [Int32.toInt_zero] at c
    omega
  · obtain ⟨j, j1, j2⟩ := nI_of c
    subst j2
    exact ⟨j + 1, by have := (nI_leI (b := 9999) j1 (by decide)).mp h2; omega, by rw [cd0S]⟩
theorem o_hide (h : INV gx gm) (a1 a2 a3 a4 a5 : Int32) : ∃ gx' gm', op_hide a1 a2 a3 a4 a5 gx gm = some (gx', gm') ∧ INV gx' gm' := by
  obtain ⟨len, tx, b, wb, S, D, P, N, z, G, K, h⟩ := h
  have h0 := h
  obtain ⟨hA, hB, hC, hK, hY, hL, hS, hM⟩ := h
  have n16 := hB.1.r16
  unfold op_hide F_X6_hide F_X7_hide
  rcases i_plain hB.1 hB.2.1 a1 a2 with ⟨e1, e2⟩ | ⟨t, c, ht, hc, hl, x1, x2, e1, e2⟩
  · refine ⟨gx, gm, ?_, len, tx, b, wb, S, D, P, N, z, G, K, h0⟩
    rw [e1, Option.bind_some, if_pos rfl, Option.bind_some]
    dsimp only
    rw [e2, Option.bind_some, if_pos rfl, Option.bind_some]
    dsimp only
    rw [if_pos rfl]
  · subst x1 x2
    have hc5 := (hB.1.tb ht).1
    rw [e1, e2, Option.bind_some, Option.bind_some, if_neg (show ¬ (1 : Int32) = 0 by decide), if_neg (show ¬ (1 : Int32) = 0 by decide), x_slot, Option.bind_some, ck_true (inB_nI (by omega) (by decide)), nI_clamp (by omega), lt_def, l5, nI_add, ck_true (inB_nI (by omega) (by decide)), nI_clamp (by omega), lt_def]
    by_cases c1 : a3 < -1
    · refine ⟨gx, gm, ?_, len, tx, b, wb, S, D, P, N, z, G, K, h0⟩
      rw [if_pos c1, if_pos c1, Option.bind_some]
      dsimp only
      rw [Option.bind_some]
      dsimp only
      rw [if_pos rfl]
    · rw [if_neg c1, if_neg c1]
      by_cases c2 : a3 ≤ 9999
      · rw [if_pos c2, if_pos c2, Option.bind_some]
        dsimp only
        rw [Option.bind_some]
        dsimp only
        rw [if_pos rfl]
        have nx : ∀ a i, ¬ a = 4 → gi (si gx 4 (t * 5 + c) a3) a i = gi gx a i := fun a i q => by rw [gi_si, if_neg (by omega)]
        have nm : ∀ a i, ¬ a = 32 → gi (si gm 32 (5 * t + c) a3) a i = gi gm a i := fun a i q => by rw [gi_si, if_neg (by omega)]
        refine ⟨_, _, rfl, len, tx, b, wb, S, D, P, N, z, G, K, ⟨⟨hA.1.1, ?_, ?_, fun j hj => ⟨(hA.1.2.2.2 j hj).1, ?_, ?_⟩⟩, hA.2.1, ?_, ?_⟩, hB.ag (fun a i p q => ⟨nx _ _ (by omega), rfl⟩) (fun a i q => nm _ _ (by unfold KM' BKm at q; omega)) (fun _ _ _ => rfl), hC.ag (fun a i p q => nx _ _ (by omega)) (nx _ _ (by omega)), ⟨hK.1, ?_, ?_⟩, fun j hj => ?_, fun q => ?_, fun q => ?_, fun q => ?_⟩
        · rw [nx _ _ (by omega)]; exact hA.1.2.1
        · rw [nm _ _ (by omega)]; exact hA.1.2.2.1
        · rw [nx _ _ (by omega)]; exact (hA.1.2.2.2 j hj).2.1
        · rw [nm _ _ (by omega)]; exact (hA.1.2.2.2 j hj).2.2
        · rw [nx _ _ (by omega), nm _ _ (by omega)]; exact hA.2.2.1
        · rw [nx _ _ (by omega), nm _ _ (by omega)]; exact hA.2.2.2
        · rw [nx _ _ (by omega)]; exact hK.2.1
        · rw [nm _ _ (by omega)]; exact hK.2.2
        · by_cases e : j = t * 5 + c
          · subst e
            rw [gi_same, gi_si, if_pos ⟨rfl, by omega⟩]
            exact ⟨rfl, key_of c1 c2⟩
          · rw [gi_si, if_neg (by omega), gi_si, if_neg (by omega)]; exact hY j hj
        · rw [nx _ _ (by omega)] at q
          rw [nx _ _ (by omega), nx _ _ (by omega)]
          obtain ⟨d1, d2⟩ := hL q
          refine ⟨d1, d2.elim Or.inl (fun ⟨s, e1, e2, e3, e4⟩ => Or.inr ⟨s, e1, e2, e3, fun j hj => by rw [nx _ _ (by omega)]; exact e4 j hj⟩)⟩
        · rw [nx _ _ (by omega)] at q ⊢
          exact hS q
        · rw [nm _ _ (by omega)] at q
          obtain ⟨d1, d2⟩ := hM q
          exact ⟨d1.ag (fun a i p q => nm _ _ (by omega)), by rw [nm _ _ (by omega)]; exact d2⟩
      · refine ⟨gx, gm, ?_, len, tx, b, wb, S, D, P, N, z, G, K, h0⟩
        rw [if_neg c2, if_neg c2, Option.bind_some]
        dsimp only
        rw [Option.bind_some]
        dsimp only
        rw [if_pos rfl]
end OPS5
