/-! readRow, whole -/
theorem RA.toRP {b k : Nat} {gx gm gx' : GM} {S : St} {va : Nat → Nat} (h : RA b gx gm S) (hR : sR S < 16) (hk : k < sT S) (x1 : gi gx' 23 (sR S) = nI k) (x2 : gi gx' 24 (sR S) = nI (sQ S k)) (x4 : ∀ a i, ¬ (a = 23 ∧ i = sR S) → ¬ (a = 24 ∧ i = sR S) → 17 ≤ a → a ≤ 27 → gi gx' a i = gi gx a i) (x5 : ∀ a i, 17 ≤ a → a ≤ 27 → gl gx' a i = gl gx a i) : RP b gx' gm S k 0 va := by
  obtain ⟨⟨h1, h2, h3, h4, h5⟩, ⟨r1, r2, r3, r4, r5⟩, q1, q2⟩ := h
  refine ⟨⟨⟨h1, h2, ?_, h4, fun t ht => ?_⟩, ⟨r1, ?_, r3, fun r hr => ?_, r5⟩, fun r hr c hc => ?_, fun r z1 z2 c hc => ?_⟩, hk, hR, x1, x2, fun c hc => by omega, fun c _ hc => ?_⟩
  · rw [x4 _ _ (by omega) (by omega) (by omega) (by omega)]; exact h3
  · obtain ⟨a1, a2, a3, a4, a5, a6, a7, a8⟩ := h5 t ht
    refine ⟨a1, a2, ?_, ?_, a5, ?_, a7, fun c hc' => ?_⟩
    · rw [x5 _ _ (by omega) (by omega)]; exact a3
    · rw [x4 _ _ (by omega) (by omega) (by omega) (by omega)]; exact a4
    · rw [x4 _ _ (by omega) (by omega) (by omega) (by omega)]; exact a6
    · obtain ⟨c1, c2, c3, c4⟩ := a8 c hc'
      refine ⟨?_, c2, ?_, c4⟩
      · rw [x5 _ _ (by omega) (by omega)]; exact c1
      · rw [x4 _ _ (by omega) (by omega) (by omega) (by omega)]; exact c3
  · rw [x4 _ _ (by omega) (by omega) (by omega) (by omega)]; exact r2
  · obtain ⟨a1, a2, a3, a4, a5, a6, a7⟩ := r4 r hr
    refine ⟨a1, a2, ?_, a4, ?_, a6, a7⟩
    · rw [x4 _ _ (by omega) (by omega) (by omega) (by omega)]; exact a3
    · rw [x4 _ _ (by omega) (by omega) (by omega) (by omega)]; exact a5
  · rw [x4 _ _ (by omega) (by omega) (by omega) (by omega), x4 _ _ (by omega) (by omega) (by omega) (by omega)]
    exact q1 r hr c hc
  · rw [x4 _ _ (by omega) (by omega) (by omega) (by omega)]
    exact q2 r (by omega) z2 c hc
  · rw [x4 _ _ (by omega) (by omega) (by omega) (by omega)]
    exact q2 _ (Nat.le_refl _) hR c hc
section RROW2
variable {gx gm : GM} {len : Nat} {tx : Nat → Nat} {t : Tk} {s e b : Nat} {S : St}
theorem f_readRow82 (hF : Fa gx gm) (x : Int32) : F_X7_readRow_82 x gm = some gm := by
  unfold F_X7_readRow_82
  rw [hF.bad, Option.bind_some, if_pos rfl]
theorem f_readRow (hF : Fa gx gm) : F_X7_readRow_18 gm = some gm := by
  unfold F_X7_readRow_18 F_X7_readRow_29 F_X7_readRow_48
  rw [hF.bad, Option.bind_some, if_pos rfl, Option.bind_some, if_pos rfl, Option.bind_some, if_pos rfl]
theorem f_readRow48 (hF : Fa gx gm) : F_X7_readRow_48 gm = some gm := by
  unfold F_X7_readRow_48
  rw [hF.bad, Option.bind_some, if_pos rfl]
theorem s_readRow (hS : Sy gx gm len tx false t s e) (hA : RA b gx gm S) (hrb : gi gm 0 24 = nI b) (hR : sR S < 16) :
    ∃ gx' gm', F_X3_readRow (nI (sR S)) gx = some gx' ∧ F_X7_readRow gm = some gm' ∧ Ow PSx QSx gx gx' ∧ Ow (PSm b) (QSm b) gm gm' ∧ ((∃ t' s' e' S', Sy gx' gm' len tx false t' s' e' ∧ RA b gx' gm' S' ∧ sT S' = sT S ∧ sR S' = sR S + 1) ∨ Fa gx' gm') := by
  have hb := hA.1.1
  have hT5 := hA.1.2.1
  obtain ⟨gx1, gm1, t1, s1, e1, p1, p2, p3, p4, p5, p6⟩ := s_adv hS
  have hA1 := hA.ow p5 p6
  have hrb1 : gi gm1 0 24 = nI b := by rw [p6.1 _ _ (fun q => by have := q.2; omega)]; exact hrb
  have eM : F_X7_readRow gm = if (gi gm1 0 8) = 2 then F_X7_readRow_48 gm1 else (F_X7_wrong gm1).bind fun g_27 => F_X7_readRow_48 g_27 := by
    unfold F_X7_readRow F_X7_readRow_18 F_X7_readRow_29
    rw [hrb, ck_true (inB_nI hb (by decide)), nI_clamp (by omega), hA.2.1.2.2.1, if_neg (fun q => by have := (nI_eq (b := 16) (by omega) (by decide)).mp q; omega), m_good hS.f0m, Option.bind_some, if_neg (by decide), p2, Option.bind_some, m_good p3.f0m, Option.bind_some, if_neg (by decide)]
  rw [eM]
  unfold F_X3_readRow
  rw [p1, Option.bind_some]
  rcases s_tabP p3 hA1.1 with ⟨wd, v, k, z1, z2, z3, z4, z5, z6⟩ | ⟨wd, v, gx2, gm2, z1, z2, z3, z4, z5, z6, z7⟩ | ⟨z0, gx2, gm2, z1, z2, z3, z4, z5⟩
  · subst z1
    obtain ⟨n1, n2, n3, n4, n5⟩ := p3.nam
    obtain ⟨gx2, gm2, t2, s2, e2, q1, q2, q3, q4, q5, q6⟩ := s_adv p3
    obtain ⟨gx3, gm3, r, u1, u2, u3, u4, u5, u6⟩ := s_take q3 (d := 58) (by decide)
    have u1' : F_X4_take 58 gx2 = some (r, gx3) := u1
    have u2' : F_X7_is 58 gm2 = some r := u2
    have eM2 : F_X7_readRow_48 gm1 = fixN (F_X7_readRow_127B (nI (5 * b + k)) (nI (16 * b + sR S))) FU (0, 1, gm3) := by
      unfold F_X7_readRow_48
      rw [m_good p3.f0m, Option.bind_some, if_neg (by decide), hrb1, n4, z5, Option.bind_some, lt_def, if_pos (nI_pos' (by omega))]
      unfold F_X7_readRow_82
      rw [m_good p3.f0m, Option.bind_some, if_neg (by decide), hrb1, ck_true (inB_nI hb (by decide)), nI_clamp (by omega), hA1.2.1.2.2.1, l16, nI_add, lt_def, q2, Option.bind_some, u2', Option.bind_some, u3, Option.bind_some]
    rw [if_pos n2, eM2, z6, q1, Option.bind_some, Option.bind_some]
    dsimp only
    rw [lt_def, u1', Option.bind_some]
    dsimp only
    have r24 : gi gm3 0 24 = nI b := by rw [u6.1 _ _ (fun q => by have := q.2; omega), q6.1 _ _ (fun q => by have := q.2; omega)]; exact hrb1
    rcases u4 with ⟨rfl, _, t3, s3, e3, y1, _⟩ | ⟨rfl, _, hF⟩
    · have hA3 := (hA1.ow q5 q6).ow u5 u6
      have ht : F_X2_hasTable_p (nI k) gx3 = some 1 := by
        unfold F_X2_hasTable_p F_X2_hasTable_p_16
        rw [if_neg (nI_pos (by omega)), show gi gx3 17 0 = nI (sT S) from hA3.1.2.2.1, if_neg (nI_ge z2 (by omega))]
      have c1 : gi (si gx3 23 (sR S) (nI k)) 20 k = nI (sQ S k) := by rw [gi_si, if_neg (by omega)]; exact (hA3.1.2.2.2.2 k z2).2.2.2.2.2.1
      rw [if_neg (show ¬ (1 : Int32) = 0 by decide), ht, Option.bind_some, if_neg (show ¬ (1 : Int32) = 0 by decide), ck_true (inB_nI hR (by decide)), nI_clamp (by omega), lt_def, ck_true (inB_nI (by omega) (by decide)), ck_true (inB_nI hR (by decide)), nI_clamp (by omega), c1, lt_def]
      have hP : RP b (si (si gx3 23 (sR S) (nI k)) 24 (sR S) (nI (sQ S k))) gm3 S k 0 (fun _ => 0) := by
        refine hA3.toRP hR z2 ?_ ?_ (fun a i j1 j2 j3 j4 => ?_) (fun a i _ _ => rfl)
        · rw [gi_si, if_neg (by omega), gi_same]
        · rw [gi_same]
        · rw [gi_si, if_neg j2, gi_si, if_neg j1]
      obtain ⟨gx4, gm4, w1, w2, w3, w4, w5⟩ := s_vals 6 0 _ gm3 t3 s3 e3 (fun _ => 0) rfl (Nat.zero_le _) (y1.tg (((TgX.rf gx3).si (by decide) (by decide)).si (by decide) (by decide)) (TgM.rf gm3)) hP r24 FU FU (by decide) (by decide)
      refine ⟨gx4, gm4, w1, w2, ((((p5.psx.tr q5.psx).tr u5.psx).si (Or.inr ⟨by decide, by decide⟩)).si (Or.inr ⟨by decide, by decide⟩)).tr w3, ((p6.psm.tr q6.psm).tr u6.psm).tr w4, ?_⟩
      rcases w5 with ⟨t', s', e', va', j1, j2⟩ | j
      · exact Or.inl ⟨t', s', e', _, j1, j2, rfl, rfl⟩
      · exact Or.inr j
    · rw [if_pos (show (0 : Int32) = 0 from rfl)]
      obtain ⟨_, gm4, f2, _, f4, f5⟩ := f_rowEnd hF hb (show k < 5 by omega) hR r24 (x := 0)
      refine ⟨gx3, gm4, rfl, ?_, (p5.psx.tr q5.psx).tr u5.psx, ((p6.psm.tr q6.psm).tr u6.psm).tr f5, Or.inr f4⟩
      have st : ∀ kb, F_X7_readRow_127B (nI (5 * b + k)) (nI (16 * b + sR S)) kb (0, 1, gm3) = some gm4 := by
        intro kb
        unfold F_X7_readRow_127B
        dsimp only
        rw [if_neg (by decide), hF.bad, Option.bind_some, if_pos rfl, f2]
      exact st (fixN (F_X7_readRow_127B (nI (5 * b + k)) (nI (16 * b + sR S))) 69999)
  · subst z1
    obtain ⟨n1, n2, n3, n4, n5⟩ := p3.nam
    refine ⟨gx2, gm2, ?_, ?_, p5.psx.tr z6.psx, p6.psm.tr z7.psm, Or.inr z5⟩
    · rw [z3, Option.bind_some]
      dsimp only
      rw [lt_def, z5.take, Option.bind_some]
      dsimp only
      rw [if_pos rfl]
    · unfold F_X7_readRow_48
      rw [if_pos n2, m_good p3.f0m, Option.bind_some, if_neg (by decide), hrb1, n4, z2, Option.bind_some, lt_def, if_neg (show ¬ (0 : Int32) ≤ -1 by decide), p3.sm, z4, Option.bind_some, f_readRow82 z5]
  · refine ⟨gx2, gm2, ?_, ?_, p5.psx.tr z4.psx, p6.psm.tr z5.psm, Or.inr z3⟩
    · rw [z1, Option.bind_some]
      dsimp only
      rw [lt_def, z3.take, Option.bind_some]
      dsimp only
      rw [if_pos rfl]
    · rw [if_neg (p3.nnam z0).2, z2, Option.bind_some, f_readRow48 z3]
end RROW2
