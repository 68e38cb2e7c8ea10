/-! calls: holds, about, end -/
section OPS6
variable {gx gm : GM} {len : Nat} {tx : Nat → Nat} {b wb : Nat} {S : St} {D : Dm} {P N z G K : Nat}
theorem o_holds (h : INV gx gm) (a1 a2 a3 a4 a5 : Int32) : ∃ gx' gm', op_holds a1 a2 a3 a4 a5 gx gm = some (gx', gm') ∧ INV gx' gm' := by
  obtain ⟨len, tx, b, wb, S, D, P, N, z, G, K, h⟩ := h
  have h0 := h
  obtain ⟨hA, hB, hC, hK, hY, hL, hS, hM⟩ := h
  have n16 := hB.1.r16
  obtain ⟨g1, g23, gwb, g37, g14, gDS, gDK, gP, gN, gG, g49⟩ := hB
  obtain ⟨⟨c1, c2, _⟩, c7, c8⟩ := hC
  have hW10 := gDS.1
  unfold op_holds
  -- none on both sides
  have no : F_X6_holds a1 a2 gx = some (-1) → F_X7_holds a1 a2 gm = some (-1, gm) → ∃ gx' gm', ((F_X6_holds a1 a2 gx).bind fun r => (F_X7_holds a1 a2 gm).bind fun (q, gm) => if r = q then some (gx, gm) else none) = some (gx', gm') ∧ INV gx' gm' := fun q1 q2 => ⟨gx, gm, by
    rw [q1, q2, Option.bind_some, Option.bind_some]
    dsimp only
    rw [if_pos rfl], len, tx, b, wb, S, D, P, N, z, G, K, h0⟩
  have eM : F_X7_holds a1 a2 gm = if a1 < 0 then some ((-1 : Int32), gm) else if nI (dW D) ≤ a1 then some (-1, gm) else ckB (inB (10 * nI wb + a1) 20) (if 0 ≤ (gi gm 17 (10 * nI wb + a1).toNatClampNeg) then some (-1, gm) else (F_X7_isRow a2 gm).bind fun r_2 => if r_2 = 0 then some (-1, gm) else (F_X7_tableAt a2 gm).bind fun r_3 => ckB (inB (10 * nI wb + a1) 20) (if r_3 = (gi gm 15 (10 * nI wb + a1).toNatClampNeg) then (F_X7_holdsFor (10 * nI wb + a1) a2 gm).bind fun (r_4, g_5) => if r_4 = 0 then some (0, g_5) else some (1, g_5) else some (-1, gm))) := by
    unfold F_X7_holds
    rw [g37, lt_def, ck_true (inB_nI gwb (by decide)), nI_clamp (by omega), g14]
  have eX : F_X6_holds a1 a2 gx = (if a1 < 0 then some (0 : Int32) else if nI (dW D) ≤ a1 then some 0 else ckB (inB a1 10) (if (gi gx 29 a1.toNatClampNeg) = 0 then some 1 else some 0)).bind fun r_1 => if r_1 = 0 then some (-1) else (F_X2_hasRow_s a2 gx).bind fun r_2 => if r_2 = 0 then some (-1) else ckB (inB a2 16) (ckB (inB a1 10) (if (gi gx 12 a2.toNatClampNeg) = (gi gx 30 a1.toNatClampNeg) then ckB (inB a1 10) ((F_X6_has (gi gx 31 a1.toNatClampNeg) a2).bind fun r_3 => if r_3 = 0 then some 0 else some 1) else some (-1))) := by
    unfold F_X6_holds F_X1_isWish_d F_X1_isWish_d_25
    rw [c1]
  rcases pk_ix a1 (show dW D < 2 ^ 31 by omega) with d | d | ⟨k, d1, d2⟩
  · exact no (by rw [eX, if_pos d, Option.bind_some, if_pos rfl]) (by rw [eM, if_pos d])
  · refine no ?_ ?_
    · rw [eX, if_pos d]
      split <;> rfl
    · rw [eM, if_pos d]
      split <;> rfl
  · subst d2
    obtain ⟨f1, f2, f3⟩ := c2 k d1
    obtain ⟨k1, k2, k3, k4⟩ := gDK k d1
    obtain ⟨s1, s2, s3, s4, s5, s6⟩ := gDS.2 k d1
    rw [if_neg (nI_pos (by omega)), if_neg (nI_ge d1 (by omega)), l10, nI_add, ck_true (inB_nI (by omega) (by decide)), nI_clamp (by omega)] at eM
    rw [if_neg (nI_pos (by omega)), if_neg (nI_ge d1 (by omega)), ck_true (inB_nI (by omega) (by decide)), ck_true (inB_nI (by omega) (by decide)), ck_true (inB_nI (by omega) (by decide)), nI_clamp (by omega), show gi gx 29 k = b2i (dL D k) from f1, show gi gx 30 k = nI (dT D k) from f2, show gi gx 31 k = nI (dF D k) from f3] at eX
    by_cases ql : dL D k = true
    · have fu := (s6 ql).1
      refine no ?_ ?_
      · rw [eX, ql, if_neg (by decide), Option.bind_some, if_pos rfl]
      · rw [eM, (k3 ql).1, if_pos (nI_pos' (by omega))]
    · have ql' : dL D k = false := by simpa using ql
      obtain ⟨k5, a, z', k6, k7, k8, k9⟩ := k4 ql'
      rw [ql', if_pos (by decide), Option.bind_some, if_neg (by decide)] at eX
      rw [k5, if_neg (by decide), k1] at eM
      rcases x_hasRow g1 g23 a2 with ⟨e1, e2⟩ | ⟨j, hj, ej, e1, e2⟩
      · exact no (by rw [eX, e1, Option.bind_some, if_pos rfl]) (by rw [eM, e2, Option.bind_some, if_pos rfl])
      · subst ej
        obtain ⟨w1, w2, w3, _⟩ := g1.rw hj
        have eT : (nI (5 * b + sB S j) = nI (5 * b + dT D k)) ↔ sB S j = dT D k := by rw [nI_eq (by omega) (by omega)]; omega
        have eT' : (nI (sB S j) = nI (dT D k)) ↔ sB S j = dT D k := nI_eq (by omega) (by omega)
        rw [e1, Option.bind_some, if_neg (by decide), ck_true (inB_nI (by omega) (by decide)), nI_clamp (by omega), w3, x_has (p16 n16.1 s4) (by omega), Option.bind_some] at eX
        rw [e2, Option.bind_some, if_neg (by decide), m_tableAt g1 g23 hj, Option.bind_some, ck_true (inB_nI (by omega) (by decide))] at eM
        simp only [eT] at eM
        simp only [eT'] at eX
        by_cases hBT : sB S j = dT D k
        · obtain ⟨gm1, m1, m2⟩ := m_holdsFor g1 g23 gwb g37 s1 (show k < 10 by omega) k6 k7 k9 hj hBT
          rw [if_pos hBT] at eX eM
          rw [m1, Option.bind_some] at eM
          dsimp only at eM
          refine ⟨gx, gm1, ?_, len, tx, b, wb, S, D, P, N, z, G, K, h0.mg (fun a i q => m2.1 a i (by omega)) m2.2⟩
          rw [eX, eM]
          cases (dF D k).testBit j
          · rfl
          · rfl
        · exact no (by rw [eX, if_neg hBT]) (by rw [eM, if_neg hBT])
theorem o_about (h : INV gx gm) (a1 a2 a3 a4 a5 : Int32) : ∃ gx' gm', op_about a1 a2 a3 a4 a5 gx gm = some (gx', gm') ∧ INV gx' gm' := by
  refine ⟨gx, gm, ?_, h⟩
  obtain ⟨len, tx, b, wb, S, D, P, N, z, G, K, hA, hB, hC, hK, hY, hL, hS, hM⟩ := h
  have n16 := hB.1.r16
  have hG16 := p16 n16.1 hB.2.2.2.2.2.2.2.2.2.1
  have h49 := hB.2.2.2.2.2.2.2.2.2.2
  have g0 : gi gx 6 0 = nI (sT S) := hB.1.1.2.2.1
  have g12 : gi gm 12 b = nI (sT S) := hB.1.1.2.2.2.1
  have hwb := hB.2.2.1
  have key : ∀ r, F_X6_about a1 gx = some r → F_X7_about a1 gm = some r → op_about a1 a2 a3 a4 a5 gx gm = some (gx, gm) := fun r q1 q2 => by
    unfold op_about
    rw [q1, q2, Option.bind_some, Option.bind_some, if_pos rfl]
  by_cases c0 : a1 = 0
  · exact key (nI (sT S)) (by unfold F_X6_about; rw [if_pos c0, g0]) (by unfold F_X7_about; rw [if_pos c0, hB.2.1, ck_true (inB_nI n16.2.2.2.1 (by decide)), nI_clamp (by omega), g12])
  by_cases c1 : a1 = 1
  · exact key (nI (sR S)) (by unfold F_X6_about; rw [if_neg c0, if_pos c1, n16.2.1]) (by unfold F_X7_about; rw [if_neg c0, if_pos c1, hB.2.1, ck_true (inB_nI n16.2.2.2.1 (by decide)), nI_clamp (by omega), n16.2.2.1])
  by_cases c2 : a1 = 2
  · exact key (nI (dW D)) (by unfold F_X6_about; rw [if_neg c0, if_neg c1, if_pos c2, hC.1.1]) (by unfold F_X7_about; rw [if_neg c0, if_neg c1, if_pos c2, hB.2.2.2.1, ck_true (inB_nI hwb (by decide)), nI_clamp (by omega), hB.2.2.2.2.1])
  by_cases c3 : a1 = 3
  · exact key (nI (pc G)) (by unfold F_X6_about; rw [if_neg c0, if_neg c1, if_neg c2, if_pos c3, hC.2.1, j_bitCount hG16, Option.bind_some]) (by unfold F_X7_about; rw [if_neg c0, if_neg c1, if_neg c2, if_pos c3, h49, m_bitsOf (by omega), Option.bind_some])
  by_cases c4 : a1 = 4
  · exact key (nI K) (by unfold F_X6_about; rw [if_neg c0, if_neg c1, if_neg c2, if_neg c3, if_pos c4, hK.2.1]) (by unfold F_X7_about; rw [if_neg c0, if_neg c1, if_neg c2, if_neg c3, if_pos c4, hK.2.2])
  by_cases c5 : a1 = 5
  · exact key (nI len) (by unfold F_X6_about; rw [if_neg c0, if_neg c1, if_neg c2, if_neg c3, if_neg c4, if_pos c5, hA.1.2.1]) (by unfold F_X7_about; rw [if_neg c0, if_neg c1, if_neg c2, if_neg c3, if_neg c4, if_pos c5, hA.1.2.2.1])
  have eX : F_X6_about a1 gx = (F_X6_aboutTable a1 gx).bind fun r_1 => some r_1 := by
    unfold F_X6_about
    rw [if_neg c0, if_neg c1, if_neg c2, if_neg c3, if_neg c4, if_neg c5]
  have eM : F_X7_about a1 gm = if a1 < 10 then F_X7_about_127 a1 gm else if (10 + nI (sT S)) ≤ a1 then F_X7_about_127 a1 gm else ckB (inB (((5 * nI b) + a1) - 10) 10) (some (gi gm 5 (((5 * nI b) + a1) - 10).toNatClampNeg)) := by
    unfold F_X7_about
    rw [if_neg c0, if_neg c1, if_neg c2, if_neg c3, if_neg c4, if_neg c5, hB.2.1, ck_true (inB_nI n16.2.2.2.1 (by decide)), nI_clamp (by omega), g12]
  have hT : ∀ w, F_X2_hasTable_s (nI w) gx = (if nI w < 0 then some 0 else if nI (sT S) ≤ nI w then some 0 else some 1) := fun w => by
    unfold F_X2_hasTable_s F_X2_hasTable_s_16
    rw [g0]
  have e127 : F_X7_about_127 a1 gm = if a1 < 20 then some (-1) else if (20 + nI (sT S)) ≤ a1 then some (-1) else ckB (inB (((5 * nI b) + a1) - 20) 10) (some (gi gm 6 (((5 * nI b) + a1) - 20).toNatClampNeg)) := by
    unfold F_X7_about_127 F_X7_about_168
    rw [hB.2.1, ck_true (inB_nI n16.2.2.2.1 (by decide)), nI_clamp (by omega), g12]
  -- the rows of a table
  have tail : F_X6_aboutTable_33 a1 gx = F_X7_about_127 a1 gm ∧ ∃ r, F_X7_about_127 a1 gm = some r := by
    by_cases c20 : a1 < 20
    · refine ⟨?_, -1, ?_⟩
      · unfold F_X6_aboutTable_33
        rw [e127, if_pos c20, if_pos c20]
      · rw [e127, if_pos c20]
    · have cn : ¬ a1 < 0 := fun q => c20 (Int32.lt_trans q (by decide))
      obtain ⟨w, w1, w2⟩ := nI_of cn
      subst w2
      have hw : 20 ≤ w := by
        rcases Nat.lt_or_ge w 20 with q | q
        · exact absurd (show nI w < 20 from nI_lt (a := w) (b := 20) q (by decide)) c20
        · exact q
      have s20 : nI w - 20 = nI (w - 20) := nI_sub (b := 20) hw
      have a20 : (20 : Int32) + nI (sT S) = nI (20 + sT S) := nI_add 20 (sT S)
      have m20 : 5 * nI b + nI w - 20 = nI (5 * b + w - 20) := by rw [l5, nI_add]; exact nI_sub (b := 20) (by omega)
      rw [if_neg c20, a20, m20] at e127
      unfold F_X6_aboutTable_33
      rw [if_neg c20, s20, hT, if_neg (nI_pos (by omega))]
      by_cases ct : w - 20 < sT S
      · obtain ⟨t1, t2, t3, t4, t5, t6⟩ := hB.1.tb ct
        have e56 : 5 * b + w - 20 = 5 * b + (w - 20) := by omega
        rw [if_neg (nI_ge ct (by omega)), Option.bind_some, if_neg (by decide), ck_true (inB_nI (by omega) (by decide)), nI_clamp (by omega), t4]
        rw [if_neg (nI_ge (by omega) (by omega)), ck_true (inB_nI (by omega) (by decide)), nI_clamp (by omega), e56, t5] at e127
        exact ⟨e127.symm, _, e127⟩
      · rw [if_pos (nI_le (by omega) (by omega)), Option.bind_some, if_pos rfl]
        rw [if_pos (nI_le (by omega) (by omega))] at e127
        exact ⟨e127.symm, _, e127⟩
  obtain ⟨t1, r, t2⟩ := tail
  by_cases c10 : a1 < 10
  · refine key r ?_ ?_
    · rw [eX]
      unfold F_X6_aboutTable
      rw [if_pos c10, t1, t2, Option.bind_some]
    · rw [eM, if_pos c10, t2]
  · have cn : ¬ a1 < 0 := fun q => c10 (Int32.lt_trans q (by decide))
    obtain ⟨w, w1, w2⟩ := nI_of cn
    subst w2
    have hw : 10 ≤ w := by
      rcases Nat.lt_or_ge w 10 with q | q
      · exact absurd (show nI w < 10 from nI_lt (a := w) (b := 10) q (by decide)) c10
      · exact q
    have s10 : nI w - 10 = nI (w - 10) := nI_sub (b := 10) hw
    have a10 : (10 : Int32) + nI (sT S) = nI (10 + sT S) := nI_add 10 (sT S)
    have m10 : 5 * nI b + nI w - 10 = nI (5 * b + w - 10) := by rw [l5, nI_add]; exact nI_sub (b := 10) (by omega)
    rw [if_neg c10, a10, m10] at eM
    have eX2 : F_X6_aboutTable (nI w) gx = (if nI (sT S) ≤ nI (w - 10) then some (0 : Int32) else some 1).bind fun r_2 => if r_2 = 0 then F_X6_aboutTable_33 (nI w) gx else ckB (inB (nI (w - 10)) 5) (some (gi gx 8 (nI (w - 10)).toNatClampNeg)) := by
      unfold F_X6_aboutTable
      rw [if_neg c10, s10, hT, if_neg (nI_pos (by omega))]
    by_cases ct : w - 10 < sT S
    · obtain ⟨u1, u2, u3, u4, u5, u6⟩ := hB.1.tb ct
      have e56 : 5 * b + w - 10 = 5 * b + (w - 10) := by omega
      refine key (nI (sC S (w - 10))) ?_ ?_
      · rw [eX, eX2, if_neg (nI_ge ct (by omega)), Option.bind_some, if_neg (by decide), ck_true (inB_nI (by omega) (by decide)), nI_clamp (by omega), u2, Option.bind_some]
      · rw [eM, if_neg (nI_ge (by omega) (by omega)), ck_true (inB_nI (by omega) (by decide)), nI_clamp (by omega), e56, u3]
    · refine key r ?_ ?_
      · rw [eX, eX2, if_pos (nI_le (by omega) (by omega)), Option.bind_some, if_pos rfl, t1, t2, Option.bind_some]
      · rw [eM, if_pos (nI_le (by omega) (by omega)), t2]
/-- the tapes change, all else stays -/
theorem INW.tp {gx' gm' : GM} {len' : Nat} {tx' : Nat → Nat} (h : INW gx gm len tx b wb S D P N z G K) (hx : ∀ a i, ¬ (a = 1 ∧ i = 2) → ¬ a = 2 → gi gx' a i = gi gx a i) (hxl : ∀ a i, gl gx' a i = gl gx a i) (hm : ∀ a i, ¬ (a = 0 ∧ i = 2) → ¬ a = 1 → gi gm' a i = gi gm a i) (hml : ∀ a i, gl gm' a i = gl gm a i) (hT : TP gx' gm' len' tx') : INW gx' gm' len' tx' b wb S D P N z G K := by
  obtain ⟨hA, hB, hC, hK, hY, hL, hS, hM⟩ := h
  refine ⟨⟨hT, fun i hi => by rw [hxl]; exact hA.2.1 i hi, by rw [hx _ _ (by omega) (by omega), hm _ _ (by omega) (by omega)]; exact hA.2.2.1, by rw [hx _ _ (by omega) (by omega), hm _ _ (by omega) (by omega)]; exact hA.2.2.2⟩, hB.ag (fun a i p q => ⟨hx _ _ (by omega) (by omega), hxl _ _⟩) (fun a i q => hm _ _ (by unfold KM' BKm at q; omega) (by unfold KM' BKm at q; omega)) (fun a i _ => hml _ _), hC.ag (fun a i p q => hx _ _ (by omega) (by omega)) (hx _ _ (by omega) (by omega)), ⟨hK.1, by rw [hx _ _ (by omega) (by omega)]; exact hK.2.1, by rw [hm _ _ (by omega) (by omega)]; exact hK.2.2⟩, fun j hj => by rw [hx _ _ (by omega) (by omega), hm _ _ (by omega) (by omega)]; exact hY j hj, fun q => ?_, fun q => ?_, fun q => ?_⟩
  · rw [hx _ _ (by omega) (by omega)] at q
    rw [hx _ _ (by omega) (by omega), hx _ _ (by omega) (by omega)]
    obtain ⟨d1, d2⟩ := hL q
    refine ⟨d1, d2.elim Or.inl (fun ⟨s, e1, e2, e3, e4⟩ => Or.inr ⟨s, e1, e2, e3, fun j hj => by rw [hx _ _ (by omega) (by omega)]; exact e4 j hj⟩)⟩
  · rw [hx _ _ (by omega) (by omega)] at q ⊢
    exact hS q
  · rw [hm _ _ (by omega) (by omega)] at q
    obtain ⟨d1, d2⟩ := hM q
    exact ⟨d1.ag (fun a i p q => hm _ _ (by omega) (by omega)), by rw [hm _ _ (by omega) (by omega)]; exact d2⟩
theorem o_end (h : INV gx gm) (a1 a2 a3 a4 a5 : Int32) : ∃ gx' gm', op_end a1 a2 a3 a4 a5 gx gm = some (gx', gm') ∧ INV gx' gm' := by
  obtain ⟨len, tx, b, wb, S, D, P, N, z, G, K, h⟩ := h
  obtain ⟨t1, t2, t3, t4⟩ := h.1.1
  unfold op_end F_X6_end F_X7_end
  rw [t2, t3]
  by_cases c0 : a1 < 0
  · refine ⟨gx, gm, ?_, len, tx, b, wb, S, D, P, N, z, G, K, h⟩
    rw [if_pos c0, if_pos c0, Option.bind_some]
    dsimp only
    rw [Option.bind_some]
    dsimp only
    rw [if_pos rfl]
  · obtain ⟨n, n1, n2⟩ := nI_of c0
    subst n2
    rw [if_neg c0, if_neg c0]
    by_cases c1 : nI n ≤ nI len
    · have hn := (nI_leI n1 (by omega)).mp c1
      refine ⟨si gx 1 2 (nI n), si gm 0 2 (nI n), ?_, n, tx, b, wb, S, D, P, N, z, G, K, h.tp (fun a i p q => by rw [gi_si, if_neg p]) (fun _ _ => rfl) (fun a i p q => by rw [gi_si, if_neg p]) (fun _ _ => rfl) ⟨by omega, gi_same, gi_same, fun j hj => ⟨(t4 j (by omega)).1, by rw [gi_si, if_neg (by omega)]; exact (t4 j (by omega)).2.1, by rw [gi_si, if_neg (by omega)]; exact (t4 j (by omega)).2.2⟩⟩⟩
      rw [if_pos c1, if_pos c1, lt_def, lt_def, Option.bind_some]
      dsimp only
      rw [Option.bind_some]
      dsimp only
      rw [if_pos rfl]
    · refine ⟨gx, gm, ?_, len, tx, b, wb, S, D, P, N, z, G, K, h⟩
      rw [if_neg c1, if_neg c1, Option.bind_some]
      dsimp only
      rw [Option.bind_some]
      dsimp only
      rw [if_pos rfl]
end OPS6
