/-! a path, and what it is compared with -/
def PMx (a i : Nat) : Prop := (a = 1 ∧ 4 ≤ i ∧ i ≤ 10) ∨ (a = 42 ∧ (i = 4 ∨ i = 5)) ∨ a = 43
def PMm (wb P N a i : Nat) : Prop := (a = 0 ∧ ((4 ≤ i ∧ i ≤ 10) ∨ i = 40 ∨ i = 41)) ∨ ((a = 23 ∨ a = 24) ∧ i = 40 * wb + P ∧ P < 40) ∨ (a = 25 ∧ 160 * wb + N ≤ i ∧ i < 160 * wb + 160)
theorem Ow.pmx {g g' : GM} (h : Ow PNx QT g g') : Ow PMx QT g g' := h.mono (fun a b q => by unfold PNx at q; unfold PMx; omega) (fun a b q => q)
theorem Ow.pmt {wb P N : Nat} {g g' : GM} (h : Ow PTm QTm g g') : Ow (PMm wb P N) QTm g g' := h.mono (fun a b q => Or.inl ⟨q.1, Or.inl q.2⟩) (fun a b q => q)
theorem Ow.pmm {wb P N : Nat} {g g' : GM} (h : Ow (PNm wb P N) QTm g g') (hP : P < 40) : Ow (PMm wb P N) QTm g g' := h.mono (fun a b q => by unfold PNm at q; unfold PMm; omega) (fun a b q => q)
section ATOM
variable {gx gm : GM} {len : Nat} {tx : Nat → Nat} {t : Tk} {s e b T wb P N : Nat} {S : St}
theorem s_readPath (hS : Sy gx gm len tx true t s e) (h : SS 6 b gx gm S) (h23 : gi gm 0 23 = nI b) (hT : T < sT S) (h426 : gi gx 42 6 = nI T) (h425 : gi gx 42 5 = nI P) (h38 : gi gm 0 38 = nI wb) (hwb : wb < 2) (h40 : gi gm 0 40 = nI P) (h41 : gi gm 0 41 = nI N) (hP : P ≤ 40) (hN : N ≤ 4 * P) :
    ∃ gx' gm', F_X5_readPath gx = some gx' ∧ F_X7_readPath (nI (5 * b + T)) gm = some gm' ∧ Ow PMx QT gx gx' ∧ Ow (PMm wb P N) QTm gm gm' ∧
    (Fa gx' gm' ∨ ∃ t' s' e' p L, Sy gx' gm' len tx true t' s' e' ∧ s < s' ∧ PV S T p L ∧ P < 40 ∧ (gi gx' 42 4 = nI L ∧ ∀ j, j < L → gi gx' 43 j = nI (p j)) ∧ gi gx' 42 5 = nI (P + 1) ∧ gi gm' 0 40 = nI (P + 1) ∧ gi gm' 0 41 = nI (N + L) ∧ gi gm' 23 (40 * wb + P) = nI (160 * wb + N) ∧ gi gm' 24 (40 * wb + P) = nI (160 * wb + N + L) ∧ ∀ j, j < L → gi gm' 25 (160 * wb + N + j) = nI (p j)) := by
  have hb5 := h.r16
  by_cases hP4 : P < 40
  · have q5 : gi gx 42 5 + 1 = nI (P + 1) := by rw [h425, nI_1]
    have eX : F_X5_readPath gx = fixN F_X5_readPath_36B FU (nI T, si (si gx 42 5 (nI (P + 1))) 42 4 0) := by
      unfold F_X5_readPath F_X5_readPath_16
      rw [q5, h425, if_pos (show nI P < 40 from nI_lt hP4 (by decide)), lt_def, lt_def, lt_def, gi_si, if_neg (by decide), gi_si, if_neg (by decide), h426]
    have TX : TgX gx (si (si gx 42 5 (nI (P + 1))) 42 4 0) := ((TgX.rf gx).si (by decide) (by decide)).si (by decide) (by decide)
    have OX : Ow PMx QT gx (si (si gx 42 5 (nI (P + 1))) 42 4 0) := ((Ow.rf gx).si (Or.inr (Or.inl ⟨rfl, Or.inr rfl⟩))).si (Or.inr (Or.inl ⟨rfl, Or.inl rfl⟩))
    rcases Tk.isNam t with ⟨wd, v, rfl⟩ | hnn
    · obtain ⟨m1, m2, m3, m4, m5⟩ := hS.nam
      have q40 : gi (si gm 23 (40 * wb + P) (nI (160 * wb + N))) 0 40 + 1 = nI (P + 1) := by rw [gi_si, if_neg (by omega), h40, nI_1]
      have eM : F_X7_readPath (nI (5 * b + T)) gm = fixN (F_X7_readPath_79B (nI (40 * wb + P))) FU (nI (5 * b + T), nI 0, 1, si (si gm 23 (40 * wb + P) (nI (160 * wb + N))) 0 40 (nI (P + 1))) := by
        unfold F_X7_readPath F_X7_readPath_21
        rw [if_pos m2, h40, if_neg (fun q => by have := (nI_eq (b := 40) (by omega) (by decide)).mp q; omega), m_good hS.f0m, Option.bind_some, if_neg (by decide), h38, h41, l40, nI_add, lt_def, ck_true (inB_nI (by omega) (by decide)), nI_clamp (by omega), l160, nI_add, lt_def, q40, lt_def]
        rfl
      have TM : TgM gm (si (si gm 23 (40 * wb + P) (nI (160 * wb + N))) 0 40 (nI (P + 1))) := ((TgM.rf gm).si (Or.inl (by decide)) (by decide)).si (Or.inr (Or.inr (by decide))) (by decide)
      have OM : Ow (PMm wb P N) QTm gm (si (si gm 23 (40 * wb + P) (nI (160 * wb + N))) 0 40 (nI (P + 1))) := ((Ow.rf gm).si (Or.inr (Or.inl ⟨Or.inl rfl, rfl, hP4⟩))).si (Or.inl ⟨rfl, Or.inr (Or.inl rfl)⟩)
      have hNM : NM (si (si gx 42 5 (nI (P + 1))) 42 4 0) (si (si gm 23 (40 * wb + P) (nI (160 * wb + N))) 0 40 (nI (P + 1))) S b T wb N 0 (fun _ => 0) := by
        refine ⟨?_, ?_, gi_same, fun j hj => by omega, ?_, ?_, fun j hj => by omega, fun j hj => by omega⟩
        · exact h.mv (fun a i ha => ⟨by rw [gi_si, if_neg (by omega), gi_si, if_neg (by omega)], rfl⟩) (fun a i hq => ⟨by rw [gi_si, if_neg (by unfold BKm at hq; omega), gi_si, if_neg (by unfold BKm at hq; omega)], rfl⟩)
        · rw [gi_si, if_neg (by decide), gi_si, if_neg (by omega)]; exact h23
        · rw [gi_si, if_neg (by decide), gi_si, if_neg (by omega)]; exact h38
        · rw [gi_si, if_neg (by decide), gi_si, if_neg (by omega)]; exact h41
      obtain ⟨gx', gm', z1, z2, z3, z4, z5⟩ := s_names hT hwb hP4 (by omega) 4 0 _ _ _ s e (fun _ => 0) rfl (hS.tg TX TM) hNM FU FU (by decide) (by decide)
      refine ⟨gx', gm', eX.trans z1, eM.trans z2, OX.tr z3.pmx, OM.tr (z4.pmm hP4), ?_⟩
      rcases z5 with z | ⟨t', s', e', p', L, z6, z7, z8, z9, z10, z11, z12⟩
      · exact Or.inl z
      · have n5 : gi gx' 42 5 = nI (P + 1) := by rw [z3.1 _ _ (by unfold PNx; omega), gi_si, if_neg (by decide), gi_same]
        have n40 : gi gm' 0 40 = nI (P + 1) := by rw [z4.1 _ _ (by unfold PNm; omega), gi_same]
        have n23 : gi gm' 23 (40 * wb + P) = nI (160 * wb + N) := by rw [z4.1 _ _ (by unfold PNm; omega), gi_si, if_neg (by omega), gi_same]
        exact Or.inr ⟨t', s', e', p', L, z6, z7, z8, hP4, z9, n5, n40, z10, n23, z11, z12⟩
    · obtain ⟨gx', gm', a1, a2, a3, a4, a5⟩ := s_wrong (hS.tg TX (TgM.rf gm))
      refine ⟨gx', gm', ?_, ?_, OX.tr a4.pnx.pmx, a5.pmt, Or.inl a3⟩
      · rw [eX]
        have st : ∀ kb, F_X5_readPath_36B kb (nI T, si (si gx 42 5 (nI (P + 1))) 42 4 0) = some gx' := by
          intro kb
          unfold F_X5_readPath_36B F_X5_readPath_186
          dsimp only
          have k2 : ¬ gi (si (si gx 42 5 (nI (P + 1))) 42 4 0) 1 5 = 2 := by rw [gi_si, if_neg (by decide), gi_si, if_neg (by decide)]; exact (hS.nnam hnn).1
          have k9 : gi (si (si gx 42 5 (nI (P + 1))) 42 4 0) 1 9 = 0 := by rw [gi_si, if_neg (by decide), gi_si, if_neg (by decide)]; exact hS.f0x
          rw [if_pos k9, gi_same, if_neg (by decide), if_neg k2, a1, Option.bind_some]
        exact st (fixN F_X5_readPath_36B 69999)
      · unfold F_X7_readPath F_X7_readPath_17 F_X7_readPath_21
        rw [if_neg (hS.nnam hnn).2, a2, Option.bind_some, a3.bad, Option.bind_some, if_pos rfl]
  · have hP40 : P = 40 := by omega
    subst hP40
    obtain ⟨gx1, gm', a1, a2, a3, a4, a5⟩ := s_wrong hS
    have hF : Fa (si (si gx1 42 5 (nI 41)) 42 4 0) gm' := a3.tg (((TgX.rf gx1).si (by decide) (by decide)).si (by decide) (by decide)) (TgM.rf gm')
    have q5 : gi gx1 42 5 + 1 = nI 41 := by rw [a4.1 _ _ (fun q => by have := q.1; omega), h425]; rfl
    refine ⟨si (si gx1 42 5 (nI 41)) 42 4 0, gm', ?_, ?_, (a4.pnx.pmx.si (Or.inr (Or.inl ⟨rfl, Or.inr rfl⟩))).si (Or.inr (Or.inl ⟨rfl, Or.inl rfl⟩)), a5.pmt, Or.inl hF⟩
    · unfold F_X5_readPath F_X5_readPath_16
      rw [h425, if_neg (by decide), a1, Option.bind_some, q5, lt_def, lt_def, lt_def]
      exact fa_names hF _ 69999
    · unfold F_X7_readPath F_X7_readPath_17 F_X7_readPath_21
      rw [h40, if_pos (show nI 40 = 40 from rfl), a2, Option.bind_some, a3.bad, Option.bind_some, if_pos rfl]
      split <;> rfl
/-- the rows that pass -/
theorem x_rows (h : SS 6 b gx gm S) (hT : T < sT S) {p : Nat → Nat} {L c nb : Nat} (hP : PV S T p L) (h4 : gi gx 42 4 = nI L) (hp : ∀ i, i < L → gi gx 43 i = nI (p i)) (h6 : gi gx 42 6 = nI T) (hc : c = 60 ∨ c = 61 ∨ c = 62) (hn : nb ≤ 1000000) :
    fixN (F_X5_readComparison_119B (nI c) (cd 0 nb) gx) FU (0, 0) = some (nI (bs (fun r => decide (sB S r = T) && cmpS c (algn S p (r + 1) L) nb) (sR S)), gx) := by
  obtain ⟨n1, n2, n3, n4, n5⟩ := h.r16
  refine fix_for0 (B := F_X5_readComparison_119B (nI c) (cd 0 nb) gx) (fun i => (nI (bs (fun r => decide (sB S r = T) && cmpS c (algn S p (r + 1) L) nb) i), nI i)) (sR S) _ (fun i hi kb => ?_) (fun kb => ?_) (by omega)
  · obtain ⟨w1, w2, w3, _⟩ := h.rw hi
    unfold F_X5_readComparison_119B F_X5_readComparison_169
    dsimp only
    rw [n2, if_neg (nI_ge hi (by omega)), ck_true (inB_nI (by omega) (by decide)), nI_clamp (by omega), w3, h6, shl1 (by omega), nI_or, lt_def, lt_def, nI_1]
    have e1 : (nI (sB S i) = nI T) ↔ sB S i = T := nI_eq (by omega) (by omega)
    simp only [e1]
    by_cases q : sB S i = T
    · rw [if_pos q, x_along h hT hP h4 hp hi q, Option.bind_some, x_compares hc (h.algL hi q hP) hn, Option.bind_some]
      simp only [bs, q, decide_true, Bool.true_and]
      cases cmpS c (algn S p (i + 1) L) nb
      · rfl
      · rfl
    · rw [if_neg q]
      simp [bs, q]
  · unfold F_X5_readComparison_119B
    dsimp only
    rw [n2, if_pos (nI_le (Nat.le_refl _) (by omega))]
end ATOM
