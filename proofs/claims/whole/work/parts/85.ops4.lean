/-! call: gone -/
section OPS4
variable {gx gm : GM} {len : Nat} {tx : Nat → Nat} {b wb : Nat} {S : St} {D : Dm} {P N z G K : Nat}
theorem INW.lk {gm' : GM} (h : INW gx gm len tx b wb S D P N z G K) (hl : LK gm gm') (hc : CK gm' S D G) : INW gx gm' len tx b wb S D P N z G K := by
  obtain ⟨hA, hB, hC, hK, hY, hL, hS, hM⟩ := h
  have nm : ∀ a i, ¬ (27 ≤ a ∧ a ≤ 30) → gi gm' a i = gi gm a i := hl.1
  refine ⟨⟨⟨hA.1.1, hA.1.2.1, ?_, fun j hj => ⟨(hA.1.2.2.2 j hj).1, (hA.1.2.2.2 j hj).2.1, ?_⟩⟩, hA.2.1, ?_, ?_⟩, hB.lk hl, hC, ⟨hK.1, hK.2.1, by rw [nm _ _ (by omega)]; exact hK.2.2⟩, fun j hj => ?_, hL, hS, fun q => ?_⟩
  · rw [nm _ _ (by omega)]; exact hA.1.2.2.1
  · rw [nm _ _ (by omega)]; exact (hA.1.2.2.2 j hj).2.2
  · rw [nm _ _ (by omega)]; exact hA.2.2.1
  · rw [nm _ _ (by omega)]; exact hA.2.2.2
  · rw [nm _ _ (by omega)]; exact hY j hj
  · rw [nm _ _ (by omega)] at q ⊢
    exact ⟨hc, (hM q).2⟩
theorem o_gone (h : INV gx gm) (a1 a2 a3 a4 a5 : Int32) : ∃ gx' gm', op_gone a1 a2 a3 a4 a5 gx gm = some (gx', gm') ∧ INV gx' gm' := by
  obtain ⟨len, tx, b, wb, S, D, P, N, z, G, K, h⟩ := h
  have h0 := h
  obtain ⟨hA, hB, hC, hK, hY, hL, hS, hM⟩ := h
  have n16 := hB.1.r16
  have hG := hB.2.2.2.2.2.2.2.2.2.1
  have h49 := hB.2.2.2.2.2.2.2.2.2.2
  have hG16 := p16 n16.1 hG
  unfold op_gone
  rcases x_hasRow hB.1 hB.2.1 a1 with ⟨e1, e2⟩ | ⟨j, hj, ej, e1, e2⟩
  · refine ⟨gx, gm, ?_, len, tx, b, wb, S, D, P, N, z, G, K, h0⟩
    unfold F_X6_gone F_X7_gone
    rw [e1, Option.bind_some, if_pos rfl, Option.bind_some]
    dsimp only
    rw [e2, Option.bind_some, if_pos rfl, Option.bind_some]
    dsimp only
    rw [if_pos rfl]
  · subst ej
    have eX : F_X6_gone (nI j) gx = if G.testBit j = true then some (0, gx) else (F_X2_isLinkedFrom_s (nI G ^^^ (-1)) (nI j) gx).bind fun r_3 => if r_3 = 0 then lt (si gx 0 7 (nI (G ||| 2 ^ j))) fun g_4 => (F_X1_lose_d (gi g_4 0 7) g_4).bind fun g_5 => (F_X6_forgetPieces g_5).bind fun g_6 => some (1, g_6) else some (0, gx) := by
      unfold F_X6_gone
      rw [e1, Option.bind_some, if_neg (by decide), hC.2.1, x_has hG16 (by omega), Option.bind_some, shl1 (by omega), nI_or]
      cases G.testBit j with
      | true => rw [if_pos rfl, if_neg (by decide), if_pos rfl]
      | false => rw [if_pos (by decide), if_neg (by decide)]
    have eM : F_X7_gone (nI j) gm = if G.testBit j = true then some (0, gm) else (F_X7_lookAt gm).bind fun g_5 => fixN (F_X7_gone_28B (nI j) g_5) FU 0 := by
      unfold F_X7_gone
      rw [e2, Option.bind_some, if_neg (by decide), h49]
      simp only [bit1 hG16 (show j < 31 by omega)]
    by_cases cg : G.testBit j = true
    · refine ⟨gx, gm, ?_, len, tx, b, wb, S, D, P, N, z, G, K, h0⟩
      rw [eX, if_pos cg, Option.bind_some]
      dsimp only
      rw [eM, if_pos cg, Option.bind_some]
      dsimp only
      rw [if_pos rfl]
    · obtain ⟨gm1, l1, l2, l3⟩ := m_lookAt hB
      have hW1 := h0.lk l2 l3.ck
      have hck := l3.ck
      obtain ⟨g1, g23, gwb, g37, g14, gDS, gDK, gP, gN, gG, g49⟩ := hW1.2.1
      rw [if_neg cg] at eX
      rw [if_neg cg, l1, Option.bind_some] at eM
      have hlk := x_linked (j := j) hB.1 (x := nI G ^^^ (-1)) (p := fun q => !G.testBit q) (fun q hq => not_lsb (by omega)) (by omega)
      have stepG : ∀ i, i < sR S → ∀ kb, F_X7_gone_28B (nI j) gm1 kb (nI i) = if (!G.testBit i) = true ∧ (lkc S i 5).testBit j = true then some (0, gm1) else kb (nI (i + 1)) := by
        intro i hi kb
        have hll := lkc_lt S i 5
        unfold F_X7_gone_28B F_X7_gone_68
        rw [g23, ck_true (inB_nI n16.2.2.2.1 (by decide)), nI_clamp (by omega), g1.r16.2.2.1, if_neg (nI_ge hi (by omega)), g49, ck_true (inB_nI (by omega) (by decide)), nI_clamp (by omega), hck.1 i hi, lt_def, nI_1]
        simp only [bit0 hG16 (show i < 31 by omega), bit1 (p16 n16.1 hll) (show j < 31 by omega)]
        cases G.testBit i with
        | true => simp
        | false => simp
      have hGM := fix_chk0 (B := F_X7_gone_28B (nI j) gm1) (fun i => nI i) (sR S) (fun i => ¬ ((!G.testBit i) = true ∧ (lkc S i 5).testBit j = true)) (some (1, si (si gm1 0 49 (nI (G ||| 2 ^ j))) 0 52 0)) (some (0, gm1)) (fun i hi hP kb => by rw [stepG i hi, if_neg hP]) (fun i hi hP kb => by rw [stepG i hi, if_pos (Classical.byContradiction hP)]) (fun kb => by
        unfold F_X7_gone_28B
        rw [g23, ck_true (inB_nI n16.2.2.2.1 (by decide)), nI_clamp (by omega), g1.r16.2.2.1, if_pos (nI_le (Nat.le_refl _) (by omega)), g49, shl1 (by omega), nI_or, lt_def, lt_def]) (by omega)
      by_cases cl : ∀ q, q < sR S → ¬ ((!G.testBit q) = true ∧ (lkc S q 5).testBit j = true)
      · have w2 : fixN (F_X7_gone_28B (nI j) gm1) FU 0 = some (1, si (si gm1 0 49 (nI (G ||| 2 ^ j))) 0 52 0) := hGM.1 cl
        have hG' : G ||| 2 ^ j < 2 ^ sR S := or_lt hG (Nat.pow_lt_pow_right (by decide) hj)
        have hsub : Sub G (G ||| 2 ^ j) := Sub.orl
        have hDX1 : DX 28 (si gx 0 7 (nI (G ||| 2 ^ j))) S D low G := hC.1.ag (fun a i ha => by rw [gi_si, if_neg (by omega)])
        obtain ⟨gx1, d1, d2, d3, d4⟩ := x_lose hDX1 gDS low_le n16.1 hsub hG' (fun n l => low_low hsub)
        have nx : ∀ a i, ¬ (a = 33 ∨ a = 34) → ¬ (a = 0 ∧ (i = 7 ∨ i = 9 ∨ i = 12)) → gi (si (si gx1 0 9 0) 0 12 0) a i = gi gx a i := fun a i p q => by rw [gi_si, if_neg (by omega), gi_si, if_neg (by omega), d3 a i p, gi_si, if_neg (by omega)]
        have lx : ∀ a i, gl (si (si gx1 0 9 0) 0 12 0) a i = gl gx a i := fun a i => by rw [gl_si, gl_si, d4, gl_si]
        have nm : ∀ a i, ¬ (a = 0 ∧ (i = 49 ∨ i = 52)) → gi (si (si gm1 0 49 (nI (G ||| 2 ^ j))) 0 52 0) a i = gi gm1 a i := fun a i q => by rw [gi_si, if_neg (by omega), gi_si, if_neg (by omega)]
        obtain ⟨hA1, hB1, hC1, hK1, hY1, hL1, hS1, hM1⟩ := hW1
        refine ⟨si (si gx1 0 9 0) 0 12 0, si (si gm1 0 49 (nI (G ||| 2 ^ j))) 0 52 0, ?_, len, tx, b, wb, S, D, P, N, z, G ||| 2 ^ j, K, ⟨⟨hA1.1.1, ?_, ?_, fun i hi => ⟨(hA1.1.2.2.2 i hi).1, ?_, ?_⟩⟩, fun i hi => ?_, ?_, ?_⟩, ⟨?_, ?_, gwb, ?_, ?_, gDS, fun k hk => ?_, gP, gN, hG', ?_⟩, ⟨?_, ?_, fun r hr hb => ?_⟩, ⟨hK1.1, ?_, ?_⟩, fun i hi => ?_, fun q => absurd ?_ q, fun q => absurd gi_same q, fun q => absurd gi_same q⟩
        · rw [eX, hlk.1 cl, Option.bind_some, if_pos rfl, lt_def, gi_same, d1, Option.bind_some]
          unfold F_X6_forgetPieces
          rw [lt_def, lt_def, Option.bind_some, Option.bind_some]
          dsimp only
          rw [eM, w2, Option.bind_some]
          dsimp only
          rw [if_pos rfl]
        · rw [nx _ _ (by omega) (by omega)]; exact hA1.1.2.1
        · rw [nm _ _ (by omega)]; exact hA1.1.2.2.1
        · rw [nx _ _ (by omega) (by omega)]; exact (hA1.1.2.2.2 i hi).2.1
        · rw [nm _ _ (by omega)]; exact (hA1.1.2.2.2 i hi).2.2
        · rw [lx]; exact hA1.2.1 i hi
        · rw [nx _ _ (by omega) (by omega), nm _ _ (by omega)]; exact hA1.2.2.1
        · rw [nx _ _ (by omega) (by omega), nm _ _ (by omega)]; exact hA1.2.2.2
        · exact g1.mv (fun a i ha => ⟨nx _ _ (by omega) (by omega), lx _ _⟩) (fun a i hq => ⟨nm _ _ (by unfold BKm at hq; omega), rfl⟩)
        · rw [nm _ _ (by omega)]; exact g23
        · rw [nm _ _ (by omega)]; exact g37
        · rw [nm _ _ (by omega)]; exact g14
        · exact (gDK k hk).ag (fun a p q => nm _ _ (by omega)) (fun i _ => ⟨nm _ _ (by omega), nm _ _ (by omega)⟩) (fun i _ => ⟨nm _ _ (by omega), nm _ _ (by omega)⟩) (fun i _ => nm _ _ (by omega)) (Nat.le_refl _) gP (Nat.le_refl _) gN (Nat.le_refl _)
        · rw [gi_si, if_neg (by decide), gi_same]
        · exact d2.ag (fun a i ha => by rw [gi_si, if_neg (by omega), gi_si, if_neg (by omega)])
        · rw [gi_si, if_neg (by decide), gi_si, if_neg (by decide), d3 _ _ (by omega), gi_same]
        · rw [Nat.testBit_or, two_bit] at hb
          simp at hb
          have hz := hC1.2.2 r hr hb.1
          refine and_zero.mpr (fun i hi => ?_)
          rw [Nat.testBit_or, two_bit, and_zero.mp hz i hi]
          by_cases e : j = i
          · subst e
            exact absurd ⟨by simp [hb.1], hi⟩ (cl r hr)
          · simp [e]
        · rw [nx _ _ (by omega) (by omega)]; exact hK1.2.1
        · rw [nm _ _ (by omega)]; exact hK1.2.2
        · rw [nx _ _ (by omega) (by omega), nm _ _ (by omega)]; exact hY1 i hi
        · rw [gi_si, if_neg (by decide), gi_same]
      · have w2 : fixN (F_X7_gone_28B (nI j) gm1) FU 0 = some (0, gm1) := hGM.2 cl
        refine ⟨gx, gm1, ?_, len, tx, b, wb, S, D, P, N, z, G, K, hW1⟩
        rw [eX, hlk.2 cl, Option.bind_some, if_neg (by decide), Option.bind_some]
        dsimp only
        rw [eM, w2, Option.bind_some]
        dsimp only
        rw [if_pos rfl]
end OPS4
