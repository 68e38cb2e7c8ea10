/-! readTable, whole -/
def gxT (gx : GM) (T : Nat) (w : Int64) : GM := si (si (si (sl gx 18 T w) 19 T 0) 20 T 0) 17 0 (nI (T + 1))
def gmT (gm : GM) (b U T : Nat) (v : Int64) : GM := si (si (si (sl gm 3 U v) 5 U 0) 6 U 0) 12 b (nI (T + 1))
theorem gxT_ok (gx : GM) (T : Nat) (w : Int64) : gl (gxT gx T w) 18 T = w ∧ gi (gxT gx T w) 19 T = 0 ∧ gi (gxT gx T w) 20 T = 0 ∧ gi (gxT gx T w) 17 0 = nI (T + 1) ∧ (∀ a i, ¬ (a = 19 ∧ i = T) → ¬ (a = 20 ∧ i = T) → ¬ (a = 17 ∧ i = 0) → gi (gxT gx T w) a i = gi gx a i) ∧ (∀ a i, ¬ (a = 18 ∧ i = T) → gl (gxT gx T w) a i = gl gx a i) := by
  unfold gxT
  refine ⟨?_, ?_, ?_, ?_, fun a i h1 h2 h3 => ?_, fun a i h1 => ?_⟩
  · rw [gl_si, gl_si, gl_si, gl_same]
  · rw [gi_si, if_neg (by omega), gi_si, if_neg (by omega), gi_same]
  · rw [gi_si, if_neg (by omega), gi_same]
  · rw [gi_same]
  · rw [gi_si, if_neg h3, gi_si, if_neg h2, gi_si, if_neg h1, gi_sl]
  · rw [gl_si, gl_si, gl_si, gl_sl, if_neg h1]
theorem gmT_ok (gm : GM) (b U T : Nat) (v : Int64) : gl (gmT gm b U T v) 3 U = v ∧ gi (gmT gm b U T v) 5 U = 0 ∧ gi (gmT gm b U T v) 6 U = 0 ∧ gi (gmT gm b U T v) 12 b = nI (T + 1) ∧ (∀ a i, ¬ (a = 5 ∧ i = U) → ¬ (a = 6 ∧ i = U) → ¬ (a = 12 ∧ i = b) → gi (gmT gm b U T v) a i = gi gm a i) ∧ (∀ a i, ¬ (a = 3 ∧ i = U) → gl (gmT gm b U T v) a i = gl gm a i) := by
  unfold gmT
  refine ⟨?_, ?_, ?_, ?_, fun a i h1 h2 h3 => ?_, fun a i h1 => ?_⟩
  · rw [gl_si, gl_si, gl_si, gl_same]
  · rw [gi_si, if_neg (by omega), gi_si, if_neg (by omega), gi_same]
  · rw [gi_si, if_neg (by omega), gi_same]
  · rw [gi_same]
  · rw [gi_si, if_neg h3, gi_si, if_neg h2, gi_si, if_neg h1, gi_sl]
  · rw [gl_si, gl_si, gl_si, gl_sl, if_neg h1]
section RTAB2
variable {gx gm : GM} {len : Nat} {tx : Nat → Nat} {t : Tk} {s e b : Nat} {S : St}
theorem f_readTable (hF : Fa gx gm) : F_X7_readTable_17 gm = some gm := by
  unfold F_X7_readTable_17 F_X7_readTable_28 F_X7_readTable_47 F_X7_readTable_78
  rw [hF.bad, Option.bind_some, if_pos rfl, Option.bind_some, if_pos rfl, Option.bind_some, if_pos rfl, Option.bind_some, if_pos rfl]
theorem f_readTable47 (hF : Fa gx gm) : F_X7_readTable_47 gm = some gm := by
  unfold F_X7_readTable_47 F_X7_readTable_78
  rw [hF.bad, Option.bind_some, if_pos rfl, Option.bind_some, if_pos rfl]
theorem f_readTable78 (hF : Fa gx gm) : F_X7_readTable_78 gm = some gm := by
  unfold F_X7_readTable_78
  rw [hF.bad, Option.bind_some, if_pos rfl]
theorem f_cols (hF : Fa gx gm) (T x : Int32) : fixN (F_X7_readTable_156B T) FU (x, gm) = some gm := by
  show F_X7_readTable_156B T (fixN (F_X7_readTable_156B T) 69999) (x, gm) = _
  have st : ∀ kb, F_X7_readTable_156B T kb (x, gm) = some gm := by
    intro kb
    unfold F_X7_readTable_156B
    dsimp only
    rw [(f_tabEnd hF).2, hF.bad, Option.bind_some, if_pos (show (0 : Int32) = 0 from rfl)]
    split <;> rfl
  exact st _
theorem s_readTable (hS : Sy gx gm len tx false t s e) (hA : RA b gx gm S) (hrb : gi gm 0 24 = nI b) (hT : sT S < 5) :
    ∃ gx' gm', F_X3_readTable (nI (sT S)) gx = some gx' ∧ F_X7_readTable gm = some gm' ∧ Ow PSx QSx gx gx' ∧ Ow (PSm b) (QSm b) gm gm' ∧ ((∃ t' s' e' S', Sy gx' gm' len tx false t' s' e' ∧ RA b gx' gm' S' ∧ sT S' = sT S + 1 ∧ sR S' = sR S) ∨ Fa gx' gm') := by
  have hb := hA.1.1
  obtain ⟨gx1, gm1, t1, s1, e1, p1, p2, p3, p4, p5, p6⟩ := s_adv hS
  have hA1 := hA.ow p5 p6
  have hrb1 : gi gm1 0 24 = nI b := by rw [p6.1 _ _ (fun q => by have := q.2; omega)]; exact hrb
  have eX : F_X3_readTable (nI (sT S)) gx = if (gi gx1 1 5) = 2 then (F_X2_tableNamed_p (gl gx1 1 8) gx1).bind fun r_16 => if r_16 = ((-1)) then F_X3_readTable_51 (nI (sT S)) gx1 else (F_X4_refuse 3 (gi gx1 1 6) gx1).bind fun g_17 => F_X3_readTable_51 (nI (sT S)) g_17 else F_X3_readTable_51 (nI (sT S)) gx1 := by
    unfold F_X3_readTable
    rw [p1, Option.bind_some]
  have eM : F_X7_readTable gm = if (gi gm1 0 8) = 2 then F_X7_readTable_47 gm1 else (F_X7_wrong gm1).bind fun g_21 => F_X7_readTable_47 g_21 := by
    unfold F_X7_readTable F_X7_readTable_17 F_X7_readTable_28
    rw [hrb, ck_true (inB_nI hb (by decide)), nI_clamp (by omega), hA.1.2.2.2.1, if_neg (fun q => by have := (nI_eq (b := 5) (by omega) (by decide)).mp q; omega), m_good hS.f0m, Option.bind_some, if_neg (by decide), p2, Option.bind_some, m_good p3.f0m, Option.bind_some, if_neg (by decide)]
  have hx1 : Ow PSx QSx gx gx1 := p5.psx
  have hm1 : Ow (PSm b) (QSm b) gm gm1 := p6.psm
  rw [eX, eM]
  rcases Tk.isNam t1 with ⟨wd, v, rfl⟩ | hn
  · obtain ⟨n1, n2, n3, n4, n5⟩ := p3.nam
    have e1 := x_tableNamed_p hA1.1.2.1 hA1.1.2.2.1 wd
    have e2 := m_tableOf hb hA1.1.2.1 hA1.1.2.2.2.1 v
    rw [show (fun t => decide (gl gx1 18 t = wd)) = (fun t => decide (gl gx1 (17 + 1) t = wd)) from rfl, p_table hA1.1 n5] at e1
    have hle := ff_le (fun t => decide (gl gm1 3 (5 * b + t) = v)) (sT S)
    rw [if_pos n1, if_pos n2, n3]
    rcases hk : ff (fun t => decide (gl gm1 3 (5 * b + t) = v)) (sT S) 0 with _ | k
    · rw [hk, cd0] at e1 e2
      rw [e1, Option.bind_some, if_pos rfl]
      obtain ⟨X1, X2, X3, X6, X4, X5⟩ := gmT_ok gm1 b (5 * b + sT S) (sT S) v
      have tgm : TgM gm1 (gmT gm1 b (5 * b + sT S) (sT S) v) := ((((TgM.rf gm1).sl (by decide)).si (Or.inl (by decide)) (by decide)).si (Or.inl (by decide)) (by decide)).si (Or.inl (by decide)) (by decide)
      have hm2 : Ow (PSm b) (QSm b) gm1 (gmT gm1 b (5 * b + sT S) (sT S) v) := ((((Ow.rf gm1).sl (Or.inr (by unfold BKm; omega))).si (Or.inr (by unfold BKm; omega))).si (Or.inr (by unfold BKm; omega))).si (Or.inr (by unfold BKm; omega))
      have hSt := p3.tg (TgX.rf gx1) tgm
      obtain ⟨gx2, gm2, t2, s2, e2', q1, q2, q3, q4, q5, q6⟩ := s_adv hSt
      obtain ⟨gx3, gm3, r, u1, u2, u3, u4, u5, u6⟩ := s_take q3 (d := 58) (by decide)
      have u1' : F_X4_take 58 gx2 = some (r, gx3) := u1
      have u2' : F_X7_is 58 gm2 = some r := u2
      have k2 : F_X4_take 2 gx1 = some (1, gx2) := by
        unfold F_X4_take
        rw [if_pos p3.f0x, if_pos n1, q1, Option.bind_some]
      have eM2 : F_X7_readTable_47 gm1 = fixN (F_X7_readTable_156B (nI (5 * b + sT S))) FU (1, gm3) := by
        have c1 : gi (si (si (sl gm1 3 (5 * b + sT S) v) 5 (5 * b + sT S) 0) 6 (5 * b + sT S) 0) 0 24 = nI b := by rw [gi_si, if_neg (by omega), gi_si, if_neg (by omega), gi_sl]; exact hrb1
        have c2 : gi (si (si (sl gm1 3 (5 * b + sT S) v) 5 (5 * b + sT S) 0) 6 (5 * b + sT S) 0) 12 b = nI (sT S) := by rw [gi_si, if_neg (by omega), gi_si, if_neg (by omega), gi_sl]; exact hA1.1.2.2.2.1
        unfold F_X7_readTable_47
        rw [m_good p3.f0m, Option.bind_some, if_neg (by decide), hrb1, n4, e2, Option.bind_some, if_pos (by decide)]
        unfold F_X7_readTable_78
        rw [m_good p3.f0m, Option.bind_some, if_neg (by decide), hrb1, ck_true (inB_nI hb (by decide)), nI_clamp (by omega), hA1.1.2.2.2.1, l5, nI_add, lt_def, ck_true (inB_nI (by omega) (by decide)), nI_clamp (by omega), n4, lt_def, ck_true (inB_nI (by omega) (by decide)), lt_def, ck_true (inB_nI (by omega) (by decide)), lt_def, c1, ck_true (inB_nI hb (by decide)), ck_true (inB_nI hb (by decide)), nI_clamp (by omega), c2, lt_def, nI_1]
        have q2' : F_X7_next (si (si (si (sl gm1 3 (5 * b + sT S) v) 5 (5 * b + sT S) 0) 6 (5 * b + sT S) 0) 12 b (nI (sT S + 1))) = some gm2 := q2
        rw [q2', Option.bind_some, u2', Option.bind_some, u3, Option.bind_some]
      rw [eM2]
      unfold F_X3_readTable_51
      rw [lt_def, k2, Option.bind_some]
      dsimp only
      rw [if_neg (show ¬ (1 : Int32) = 0 by decide), u1', Option.bind_some]
      dsimp only
      rcases u4 with ⟨rfl, c3, t3, s3, e3, z1, z2⟩ | ⟨rfl, c3, hF⟩
      · rw [if_neg (show ¬ (1 : Int32) = 0 by decide)]
        obtain ⟨Y1, Y2, Y3, Y6, Y4, Y5⟩ := gxT_ok gx3 (sT S) wd
        have ax3 := (q5.agX (B := 17) (by decide)).tr (u5.agX (B := 17) (by decide))
        have tgx : TgX gx3 (gxT gx3 (sT S) wd) := ((((TgX.rf gx3).sl (by decide) (by decide)).si (by decide) (by decide)).si (by decide) (by decide)).si (by decide) (by decide)
        have hxT : Ow PSx QSx gx3 (gxT gx3 (sT S) wd) := ((((Ow.rf gx3).sl (Or.inr ⟨by decide, by decide⟩)).si (Or.inr ⟨by decide, by decide⟩)).si (Or.inr ⟨by decide, by decide⟩)).si (Or.inr ⟨by decide, by decide⟩)
        have hA3 : RA b (gxT gx3 (sT S) wd) gm3 (sAddT S) := by
          refine addT hA1 hT n5 Y1 Y2 Y3 Y6 (fun a i z1 z2 z3 z4 z5 => ?_) (fun a i z1 z4 z5 => ?_) ?_ ?_ ?_ ?_ (fun a i z1 z2 z3 z4 z5 => ?_) (fun a i z1 z4 z5 => ?_)
          · rw [Y4 a i z1 z2 z3]; exact (ax3 a i z4 z5).1
          · rw [Y5 a i z1]; exact (ax3 a i z4 z5).2
          · rw [u6.2 _ _ (fun q => by have := q.1; omega), q6.2 _ _ (fun q => by have := q.1; omega)]; exact X1
          · rw [u6.1 _ _ (fun q => by have := q.1; omega), q6.1 _ _ (fun q => by have := q.1; omega)]; exact X2
          · rw [u6.1 _ _ (fun q => by have := q.1; omega), q6.1 _ _ (fun q => by have := q.1; omega)]; exact X3
          · rw [u6.1 _ _ (fun q => by have := q.1; omega), q6.1 _ _ (fun q => by have := q.1; omega)]; exact X6
          · rw [u6.1 _ _ (fun q => by have := q.1; omega), q6.1 _ _ (fun q => by have := q.1; omega)]; exact X4 a i z1 z2 z3
          · rw [u6.2 _ _ (fun q => by have := q.1; omega), q6.2 _ _ (fun q => by have := q.1; omega)]; exact X5 a i z1
        have r24 : gi gm3 0 24 = nI b := by
          rw [u6.1 _ _ (fun q => by have := q.2; omega), q6.1 _ _ (fun q => by have := q.2; omega), X4 _ _ (by omega) (by omega) (by omega)]; exact hrb1
        have hno : ∀ r, r < sR (sAddT S) → ¬ sB (sAddT S) r = sT S := fun r hr q => by
          have := (hA.2.1.2.2.2.1 r hr).1
          have q' : sB S r = sT S := q
          omega
        have eC0 : sC (sAddT S) (sT S) = 0 := if_pos rfl
        obtain ⟨gx4, gm4, w1, w2, w3, w4, w5⟩ := s_cols (T := sT S) 6 0 (gxT gx3 (sT S) wd) gm3 (sAddT S) t3 s3 e3 rfl eC0 (z1.tg tgx (TgM.rf gm3)) hA3 r24 (Nat.lt_succ_self _) hno FU FU (by decide) (by decide)
        refine ⟨gx4, gm4, ?_, w2, ((((hx1.tr q5.psx).tr u5.psx).tr hxT).tr w3), (((hm1.tr hm2).tr q6.psm).tr u6.psm).tr w4, ?_⟩
        · have c1 : gi (si (si (sl gx3 18 (sT S) wd) 19 (sT S) 0) 20 (sT S) 0) 17 0 = nI (sT S) := by rw [gi_si, if_neg (by omega), gi_si, if_neg (by omega), gi_sl, (ax3 _ _ (by decide) (by decide)).1]; exact hA1.1.2.2.1
          rw [ck_true (inB_nI (by omega) (by decide)), nI_clamp (by omega), n3, lt_def, ck_true (inB_nI (by omega) (by decide)), lt_def, ck_true (inB_nI (by omega) (by decide)), lt_def, lt_def, c1, nI_1]
          exact w1
        · exact w5
      · rw [if_pos (show (0 : Int32) = 0 from rfl)]
        exact ⟨gx3, gm3, rfl, f_cols hF _ _, (hx1.tr q5.psx).tr u5.psx, ((hm1.tr hm2).tr q6.psm).tr u6.psm, Or.inr hF⟩
    · rw [hk, cdS] at e1 e2
      obtain ⟨gx', gm', h1, h2, h3, h4, h6⟩ := s_fail p3 (k := 3) (p := s1) (by decide) (by decide)
      have h1' : F_X4_refuse 3 (nI s1) gx1 = some gx' := h1
      have h2' : F_X7_fails 3 (nI s1) gm1 = some gm' := h2
      refine ⟨gx', gm', ?_, ?_, hx1.tr h4.psx, hm1.tr h6.psm, Or.inr h3⟩
      · rw [e1, Option.bind_some, if_neg (nI_ne1 (by omega)), p3.sx, h1', Option.bind_some]
        unfold F_X3_readTable_51
        rw [lt_def, h3.take, Option.bind_some]
        dsimp only
        rw [if_pos rfl]
      · unfold F_X7_readTable_47
        rw [m_good p3.f0m, Option.bind_some, if_neg (by decide), hrb1, n4, e2, Option.bind_some, if_neg (nI_pos (by omega)), p3.sm, h2', Option.bind_some, f_readTable78 h3]
  · obtain ⟨gx', gm', h1, h2, h3, h4, h6⟩ := s_wrong p3
    obtain ⟨n1, n2⟩ := p3.nnam hn
    refine ⟨gx', gm', ?_, ?_, hx1.tr h4.psx, hm1.tr h6.psm, Or.inr h3⟩
    · rw [if_neg n1]
      unfold F_X3_readTable_51 F_X4_take
      rw [lt_def, if_pos p3.f0x, if_neg n1, h1, Option.bind_some, Option.bind_some]
      dsimp only
      rw [if_pos rfl]
    · rw [if_neg n2, h2, Option.bind_some, f_readTable47 h3]
end RTAB2
