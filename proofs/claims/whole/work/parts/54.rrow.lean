/-! readRow on both sides -/
def sAddR (S : St) (T : Nat) (va : Nat → Nat) : St := ((sT S, sR S + 1), (sC S, fun t => if t = T then sQ S T + 1 else sQ S t, sL S), (fun r => if r = sR S then T else sB S r, fun r => if r = sR S then sQ S T else sK S r, fun r c => if r = sR S then va c else sV S r c))
theorem addR {b T : Nat} {gx gm gx' gm' : GM} {S : St} {va : Nat → Nat} (h : RP b gx gm S T (sC S T) va)
    (x1 : gi gx' 20 T = nI (sQ S T + 1)) (x2 : gi gx' 17 6 = nI (sR S + 1)) (x4 : ∀ a i, ¬ (a = 20 ∧ i = T) → ¬ (a = 17 ∧ i = 6) → 17 ≤ a → a ≤ 27 → gi gx' a i = gi gx a i) (x5 : ∀ a i, 17 ≤ a → a ≤ 27 → gl gx' a i = gl gx a i)
    (y1 : gi gm' 6 (5 * b + T) = nI (sQ S T + 1)) (y2 : gi gm' 13 b = nI (sR S + 1)) (y3 : gi gm' 8 (16 * b + sR S) = nI (5 * b + T)) (y6 : gi gm' 9 (16 * b + sR S) = nI (sQ S T)) (y4 : ∀ a i, ¬ (a = 6 ∧ i = 5 * b + T) → ¬ (a = 13 ∧ i = b) → ¬ (a = 8 ∧ i = 16 * b + sR S) → ¬ (a = 9 ∧ i = 16 * b + sR S) → 3 ≤ a → a ≤ 13 → gi gm' a i = gi gm a i) (y5 : ∀ a i, 3 ≤ a → a ≤ 13 → gl gm' a i = gl gm a i) : RA b gx' gm' (sAddR S T va) := by
  obtain ⟨⟨⟨h1, h2, h3, h4, h5⟩, ⟨r1, r2, r3, r4, r5⟩, q1, q2⟩, v1, v2, v3, v4, v5, v6⟩ := h
  have eQ : ∀ t, ¬ t = T → sQ (sAddR S T va) t = sQ S t := fun t ht => if_neg ht
  have eQT : sQ (sAddR S T va) T = sQ S T + 1 := if_pos rfl
  have eB : ∀ r, ¬ r = sR S → sB (sAddR S T va) r = sB S r := fun t ht => if_neg ht
  have eK : ∀ r, ¬ r = sR S → sK (sAddR S T va) r = sK S r := fun t ht => if_neg ht
  have eV : ∀ r c, ¬ r = sR S → sV (sAddR S T va) r c = sV S r c := fun t c ht => if_neg ht
  have eB' : sB (sAddR S T va) (sR S) = T := if_pos rfl
  have eK' : sK (sAddR S T va) (sR S) = sQ S T := if_pos rfl
  have eV' : ∀ c, sV (sAddR S T va) (sR S) c = va c := fun c => if_pos rfl
  have eC : ∀ t, sC (sAddR S T va) t = sC S t := fun _ => rfl
  have eR : sR (sAddR S T va) = sR S + 1 := rfl
  refine ⟨⟨h1, h2, ?_, ?_, fun t ht => ?_⟩, ⟨v2, x2, y2, fun r hr => ?_, fun u v hu hv => ?_⟩, ⟨fun r hr c hc => ?_, fun r z1 z2 c hc => ?_⟩⟩
  · rw [x4 _ _ (by omega) (by omega) (by omega) (by omega)]; exact h3
  · rw [y4 _ _ (by omega) (by omega) (by omega) (by omega) (by omega) (by omega)]; exact h4
  · obtain ⟨a1, a2, a3, a4, a5, a6, a7, a8⟩ := h5 t ht
    refine ⟨a1, ?_, ?_, ?_, ?_, ?_, ?_, fun c hc' => ?_⟩
    · by_cases e : t = T
      · rw [e, eQT, eR]; rw [e] at a2; omega
      · rw [eQ t e, eR]; omega
    · rw [x5 _ _ (by omega) (by omega), y5 _ _ (by omega) (by omega)]; exact a3
    · rw [x4 _ _ (by omega) (by omega) (by omega) (by omega)]; exact a4
    · rw [y4 _ _ (by omega) (by omega) (by omega) (by omega) (by omega) (by omega)]; exact a5
    · by_cases e : t = T
      · rw [e, eQT]; exact x1
      · rw [eQ t e, x4 _ _ (by omega) (by omega) (by omega) (by omega)]; exact a6
    · by_cases e : t = T
      · rw [e, eQT]; exact y1
      · rw [eQ t e, y4 _ _ (by omega) (by omega) (by omega) (by omega) (by omega) (by omega)]; exact a7
    · obtain ⟨c1, c2, c3, c4⟩ := a8 c hc'
      refine ⟨?_, c2, ?_, ?_⟩
      · rw [x5 _ _ (by omega) (by omega), y5 _ _ (by omega) (by omega)]; exact c1
      · rw [x4 _ _ (by omega) (by omega) (by omega) (by omega)]; exact c3
      · rw [y4 _ _ (by omega) (by omega) (by omega) (by omega) (by omega) (by omega)]; exact c4
  · rw [eR] at hr
    by_cases e : r = sR S
    · subst e
      unfold Rw
      rw [eB', eK', eQT]
      refine ⟨v1, Nat.lt_succ_self _, ?_, y3, ?_, y6, fun c hc' => ?_⟩
      · rw [x4 _ _ (by omega) (by omega) (by omega) (by omega)]; exact v3
      · rw [x4 _ _ (by omega) (by omega) (by omega) (by omega)]; exact v4
      · rw [eV', y4 _ _ (by omega) (by omega) (by omega) (by omega) (by omega) (by omega)]
        exact ⟨(v5 c hc').1, (v5 c hc').2.2.1⟩
    · obtain ⟨a1, a2, a3, a4, a5, a6, a7⟩ := r4 r (by omega)
      unfold Rw
      rw [eB r e, eK r e]
      refine ⟨a1, ?_, ?_, ?_, ?_, ?_, fun c hc' => ?_⟩
      · by_cases e2 : sB S r = T
        · rw [e2, eQT]; rw [e2] at a2; omega
        · rw [eQ _ e2]; exact a2
      · rw [x4 _ _ (by omega) (by omega) (by omega) (by omega)]; exact a3
      · rw [y4 _ _ (by omega) (by omega) (by omega) (by omega) (by omega) (by omega)]; exact a4
      · rw [x4 _ _ (by omega) (by omega) (by omega) (by omega)]; exact a5
      · rw [y4 _ _ (by omega) (by omega) (by omega) (by omega) (by omega) (by omega)]; exact a6
      · rw [eV r c e, y4 _ _ (by omega) (by omega) (by omega) (by omega) (by omega) (by omega)]; exact a7 c hc'
  · by_cases e : u = T ∧ v = sQ S T
    · exact ⟨sR S, by rw [eR]; omega, by rw [eB', e.1], by rw [eK', e.2]⟩
    · have hv' : v < sQ S u := by
        by_cases e2 : u = T
        · rw [e2, eQT] at hv; rw [e2]; omega
        · rw [eQ u e2] at hv; exact hv
      obtain ⟨r, k1, k2, k3⟩ := r5 u v hu hv'
      exact ⟨r, by rw [eR]; omega, by rw [eB r (by omega)]; exact k2, by rw [eK r (by omega)]; exact k3⟩
  · rw [eR] at hr
    have y4' : ∀ i, gi gm' 11 i = gi gm 11 i := fun i => y4 _ _ (by omega) (by omega) (by omega) (by omega) (by omega) (by omega)
    rw [x4 _ _ (by omega) (by omega) (by omega) (by omega), x4 _ _ (by omega) (by omega) (by omega) (by omega), y4']
    by_cases e : r = sR S
    · subst e
      rw [eB', eV', eC]
      by_cases e2 : c < sC S T
      · rw [if_pos e2]
        exact ⟨(v5 c e2).2.1, fun _ h => (v5 c e2).2.2.2 h⟩
      · rw [if_neg e2]
        exact ⟨v6 c (by omega) hc, fun h => absurd h e2⟩
    · rw [eB r e, eV r c e]
      exact q1 r (by omega) c hc
  · rw [eR] at z1
    rw [x4 _ _ (by omega) (by omega) (by omega) (by omega)]
    exact q2 r (by omega) z2 c hc
section RROW
variable {gx gm : GM} {len : Nat} {tx : Nat → Nat} {t : Tk} {s e b T : Nat} {S : St} {va : Nat → Nat}
def gmR (gm : GM) (b U R : Nat) : GM := si (si (si (si gm 8 R (nI U)) 9 R (gi gm 6 U)) 6 U (gi gm 6 U + 1)) 13 b (gi gm 13 b + 1)
theorem gmR_ok (gm : GM) (b U R : Nat) : gi (gmR gm b U R) 6 U = gi gm 6 U + 1 ∧ gi (gmR gm b U R) 13 b = gi gm 13 b + 1 ∧ gi (gmR gm b U R) 8 R = nI U ∧ gi (gmR gm b U R) 9 R = gi gm 6 U ∧ (∀ a i, ¬ (a = 6 ∧ i = U) → ¬ (a = 13 ∧ i = b) → ¬ (a = 8 ∧ i = R) → ¬ (a = 9 ∧ i = R) → gi (gmR gm b U R) a i = gi gm a i) ∧ ∀ a i, gl (gmR gm b U R) a i = gl gm a i := by
  unfold gmR
  refine ⟨?_, ?_, ?_, ?_, fun a i h1 h2 h3 h4 => ?_, fun a i => rfl⟩
  · rw [gi_si, if_neg (by omega), gi_same]
  · rw [gi_same]
  · rw [gi_si, if_neg (by omega), gi_si, if_neg (by omega), gi_si, if_neg (by omega), gi_same]
  · rw [gi_si, if_neg (by omega), gi_si, if_neg (by omega), gi_same]
  · rw [gi_si, if_neg h2, gi_si, if_neg h1, gi_si, if_neg h4, gi_si, if_neg h3]
theorem gmR_eq {R : Nat} (hb : b < 2) (hU : T < 5) (hR : R < 32) (hrb : gi gm 0 24 = nI b) :
    (ckB (inB (nI R) 32) <| lt (si gm 8 (nI R).toNatClampNeg (nI (5 * b + T))) fun g_3 => ckB (inB (nI (5 * b + T)) 10) <| ckB (inB (nI R) 32) <| lt (si g_3 9 (nI R).toNatClampNeg (gi g_3 6 (nI (5 * b + T)).toNatClampNeg)) fun g_4 => ckB (inB (nI (5 * b + T)) 10) <| ckB (inB (nI (5 * b + T)) 10) <| lt (si g_4 6 (nI (5 * b + T)).toNatClampNeg ((gi g_4 6 (nI (5 * b + T)).toNatClampNeg) + 1)) fun g_5 => ckB (inB (gi g_5 0 24) 2) <| ckB (inB (gi g_5 0 24) 2) <| lt (si g_5 13 ((gi g_5 0 24).toNatClampNeg) ((gi g_5 13 (gi g_5 0 24).toNatClampNeg) + 1)) fun g_6 => some g_6) = some (gmR gm b (5 * b + T) R) := by
  have c1 : gi (si gm 8 R (nI (5 * b + T))) 6 (5 * b + T) = gi gm 6 (5 * b + T) := by rw [gi_si, if_neg (by omega)]
  have c2 : gi (si (si gm 8 R (nI (5 * b + T))) 9 R (gi gm 6 (5 * b + T))) 6 (5 * b + T) = gi gm 6 (5 * b + T) := by rw [gi_si, if_neg (by omega), gi_si, if_neg (by omega)]
  have c3 : gi (si (si (si gm 8 R (nI (5 * b + T))) 9 R (gi gm 6 (5 * b + T))) 6 (5 * b + T) (gi gm 6 (5 * b + T) + 1)) 0 24 = nI b := by rw [gi_si, if_neg (by omega), gi_si, if_neg (by omega), gi_si, if_neg (by omega)]; exact hrb
  have c4 : gi (si (si (si gm 8 R (nI (5 * b + T))) 9 R (gi gm 6 (5 * b + T))) 6 (5 * b + T) (gi gm 6 (5 * b + T) + 1)) 13 b = gi gm 13 b := by rw [gi_si, if_neg (by omega), gi_si, if_neg (by omega), gi_si, if_neg (by omega)]
  rw [ck_true (inB_nI hR (by decide)), nI_clamp (by omega), lt_def, ck_true (inB_nI (by omega) (by decide)), ck_true (inB_nI hR (by decide)), nI_clamp (by omega), c1, lt_def, ck_true (inB_nI (by omega) (by decide)), ck_true (inB_nI (by omega) (by decide)), c2, lt_def, c3, ck_true (inB_nI hb (by decide)), ck_true (inB_nI hb (by decide)), nI_clamp (by omega), c4, lt_def]
  rfl
theorem m_row246 {r : Int32} {gm1 : GM} (hb : b < 2) (hT : T < 5) (hR : sR S < 16) (h1 : F_X7_is 59 gm = some r) (h2 : F_X7_must r gm = some gm1) (hrb : gi gm1 0 24 = nI b) : F_X7_readRow_246 (nI (5 * b + T)) (nI (16 * b + sR S)) gm = some (gmR gm1 b (5 * b + T) (16 * b + sR S)) := by
  unfold F_X7_readRow_246
  rw [h1, Option.bind_some, h2, Option.bind_some]
  exact gmR_eq hb hT (by omega) hrb
theorem gmR_ow (hb : b < 2) (hT : T < 5) (hR : sR S < 16) : Ow (PSm b) (QSm b) gm (gmR gm b (5 * b + T) (16 * b + sR S)) := ((((Ow.rf gm).si (Or.inr (by unfold BKm; omega))).si (Or.inr (by unfold BKm; omega))).si (Or.inr (by unfold BKm; omega))).si (Or.inr (by unfold BKm; omega))
theorem gmR_tg {U R : Nat} : TgM gm (gmR gm b U R) := ((((TgM.rf gm).si (Or.inl (by decide)) (by decide)).si (Or.inl (by decide)) (by decide)).si (Or.inl (by decide)) (by decide)).si (Or.inl (by decide)) (by decide)
/-- the end of a row -/
theorem f_rowEnd (hF : Fa gx gm) (hb : b < 2) (hT : T < 5) (hR : sR S < 16) (hrb : gi gm 0 24 = nI b) {x : Int32} : F_X3_readRow_138 (nI T) x gx = some gx ∧ ∃ gm', F_X7_readRow_225 (nI (5 * b + T)) (nI (16 * b + sR S)) x gm = some gm' ∧ F_X7_readRow_246 (nI (5 * b + T)) (nI (16 * b + sR S)) gm = some gm' ∧ Fa gx gm' ∧ Ow (PSm b) (QSm b) gm gm' := by
  refine ⟨?_, gmR gm b (5 * b + T) (16 * b + sR S), ?_, ?_, hF.tg (TgX.rf gx) gmR_tg, gmR_ow hb hT hR⟩
  · unfold F_X3_readRow_138 F_X3_readRow_169
    rw [if_neg hF.nx, hF.take, Option.bind_some]
    dsimp only
    rw [if_pos rfl]
  · obtain ⟨r, hr⟩ := hF.is 59
    unfold F_X7_readRow_225
    rw [hF.bad, Option.bind_some, if_pos rfl]
    exact m_row246 hb hT hR hr (hF.must r) hrb
  · obtain ⟨r, hr⟩ := hF.is 59
    exact m_row246 hb hT hR hr (hF.must r) hrb
theorem s_rowEnd {c : Nat} (hS : Sy gx gm len tx false t s e) (hP : RP b gx gm S T c va) (hrb : gi gm 0 24 = nI b) (hc : c ≤ sC S T) :
    ∃ gx' gm', F_X3_readRow_138 (nI T) (nI c) gx = some gx' ∧ F_X7_readRow_225 (nI (5 * b + T)) (nI (16 * b + sR S)) (nI c) gm = some gm' ∧ Ow PSx QSx gx gx' ∧ Ow (PSm b) (QSm b) gm gm' ∧ ((∃ t' s' e', Sy gx' gm' len tx false t' s' e' ∧ RA b gx' gm' (sAddR S T va)) ∨ Fa gx' gm') := by
  obtain ⟨⟨hT, hRw, _⟩, v1, v2, v3, v4, v5, v6⟩ := id hP
  have hb := hT.1
  have hT5 := hT.2.1
  obtain ⟨a1, a2, a3, a4, a5, a6, a7, a8⟩ := hT.2.2.2.2 T v1
  by_cases e1 : c = sC S T
  · obtain ⟨gx1, gm1, r, u1, u2, u3, u4, u5, u6⟩ := s_take hS (d := 59) (by decide)
    have u1' : F_X4_take 59 gx = some (r, gx1) := u1
    have u2' : F_X7_is 59 gm = some r := u2
    have r24 : gi gm1 0 24 = nI b := by rw [u6.1 _ _ (fun q => by have := q.2; omega)]; exact hrb
    have eX : F_X3_readRow_138 (nI T) (nI c) gx = if r = 0 then some gx1 else some (si (si gx1 20 T (gi gx1 20 T + 1)) 17 6 (gi gx1 17 6 + 1)) := by
      unfold F_X3_readRow_138 F_X3_readRow_169
      have c1 : gi (si gx1 20 T (gi gx1 20 T + 1)) 17 6 = gi gx1 17 6 := by rw [gi_si, if_neg (by omega)]
      rw [if_pos hS.f0x, ck_true (inB_nI (by omega) (by decide)), nI_clamp (by omega), show gi gx 19 T = nI (sC S T) from a4, if_pos (nI_le (by omega) (by omega)), u1', Option.bind_some]
      dsimp only
      rw [ck_true (inB_nI (by omega) (by decide)), ck_true (inB_nI (by omega) (by decide)), lt_def, lt_def, c1]
    have eM : F_X7_readRow_225 (nI (5 * b + T)) (nI (16 * b + sR S)) (nI c) gm = some (gmR gm1 b (5 * b + T) (16 * b + sR S)) := by
      unfold F_X7_readRow_225
      rw [m_good hS.f0m, Option.bind_some, if_neg (by decide), ck_true (inB_nI (by omega) (by decide)), nI_clamp (by omega), a5, if_pos (nI_le (by omega) (by omega))]
      exact m_row246 hb (by omega) v2 u2' u3 r24
    rw [eX, eM]
    rcases u4 with ⟨rfl, _, t1, s1, e1', z1, _⟩ | ⟨rfl, _, hF⟩
    · rw [if_neg (show ¬ (1 : Int32) = 0 by decide)]
      refine ⟨_, _, rfl, rfl, (u5.psx.si (Or.inr ⟨by decide, by decide⟩)).si (Or.inr ⟨by decide, by decide⟩), u6.psm.tr (gmR_ow hb (by omega) v2), Or.inl ⟨t1, s1, e1', z1.tg (((TgX.rf gx1).si (by decide) (by decide)).si (by decide) (by decide)) gmR_tg, ?_⟩⟩
      have hP1 := hP.ow u5 u6
      rw [e1] at hP1
      obtain ⟨⟨⟨j1, j2, j3, j4, j5⟩, ⟨i1, i2, i3, i4, i5⟩, _, _⟩, _⟩ := id hP1
      obtain ⟨b1, b2, b3, b4, b5, b6, b7, b8⟩ := j5 T v1
      obtain ⟨G1, G2, G3, G4, G5, G6⟩ := gmR_ok gm1 b (5 * b + T) (16 * b + sR S)
      refine addR hP1 ?_ ?_ (fun a i z1 z2 z3 z4 => ?_) (fun a i z3 z4 => rfl) ?_ ?_ G3 ?_ (fun a i z1 z2 z3 z4 z5 z6 => G5 a i z1 z2 z3 z4) (fun a i _ _ => G6 a i)
      · rw [gi_si, if_neg (by omega), gi_same, show gi gx1 20 T = nI (sQ S T) from b6, nI_1]
      · rw [gi_same, show gi gx1 17 6 = nI (sR S) from i2, nI_1]
      · rw [gi_si, if_neg z2, gi_si, if_neg z1]
      · rw [G1, b7, nI_1]
      · rw [G2, i3, nI_1]
      · rw [G4, b7]
    · rw [if_pos (show (0 : Int32) = 0 from rfl)]
      exact ⟨gx1, _, rfl, rfl, u5.psx, u6.psm.tr (gmR_ow hb (by omega) v2), Or.inr (hF.tg (TgX.rf gx1) gmR_tg)⟩
  · obtain ⟨gx1, gm1, h1, h2, h3, h4, h5⟩ := s_wrong hS
    have r24 : gi gm1 0 24 = nI b := by rw [h5.1 _ _ (fun q => by have := q.2; omega)]; exact hrb
    obtain ⟨_, gm2, _, f3, f4, f5⟩ := f_rowEnd h3 hb (show T < 5 by omega) v2 r24 (x := 0)
    refine ⟨gx1, gm2, ?_, ?_, h4.psx, h5.psm.tr f5, Or.inr f4⟩
    · unfold F_X3_readRow_138 F_X3_readRow_169
      rw [if_pos hS.f0x, ck_true (inB_nI (by omega) (by decide)), nI_clamp (by omega), show gi gx 19 T = nI (sC S T) from a4, if_neg (nI_ge (by omega) (by omega)), h1, Option.bind_some, h3.take, Option.bind_some]
      dsimp only
      rw [if_pos rfl]
    · unfold F_X7_readRow_225
      rw [m_good hS.f0m, Option.bind_some, if_neg (by decide), ck_true (inB_nI (by omega) (by decide)), nI_clamp (by omega), a5, if_neg (nI_ge (by omega) (by omega)), h2, Option.bind_some]
      exact f3
theorem x76_0 {R T x : Int32} {kb : Int32 × Int32 × GM → Option GM} {g : GM} : F_X3_readRow_76B R T kb (0, x, g) = F_X3_readRow_138 T x g := by
  unfold F_X3_readRow_76B
  dsimp only
  rw [if_pos rfl]
theorem m127_0 {R T x : Int32} {kb : Int32 × Int32 × GM → Option GM} {g : GM} : F_X7_readRow_127B T R kb (x, 0, g) = F_X7_readRow_225 T R x g := by
  unfold F_X7_readRow_127B
  dsimp only
  rw [if_pos rfl]
theorem s_vals {T : Nat} : ∀ d c gx gm t s e va, c + d = 6 → c ≤ sC S T → Sy gx gm len tx false t s e → RP b gx gm S T c va → gi gm 0 24 = nI b → ∀ n m, d < n → d < m → ∃ gx' gm', fixN (F_X3_readRow_76B (nI (sR S)) (nI T)) n (1, nI c, gx) = some gx' ∧ fixN (F_X7_readRow_127B (nI (5 * b + T)) (nI (16 * b + sR S))) m (nI c, 1, gm) = some gm' ∧ Ow PSx QSx gx gx' ∧ Ow (PSm b) (QSm b) gm gm' ∧ ((∃ t' s' e' va', Sy gx' gm' len tx false t' s' e' ∧ RA b gx' gm' (sAddR S T va')) ∨ Fa gx' gm') := by
  intro d
  induction d with
  | zero =>
    intro c gx gm t s e va hi hc hS hP hrb n m hn hm
    have := (hP.1.1.2.2.2.2 T hP.2.1).1
    omega
  | succ d ih =>
    intro c gx gm t s e va hi hc hS hP hrb n m hn hm
    obtain ⟨n, rfl⟩ : ∃ k, n = k + 2 := ⟨n - 2, by omega⟩
    obtain ⟨m, rfl⟩ : ∃ k, m = k + 2 := ⟨m - 2, by omega⟩
    obtain ⟨⟨hT, hRw, _⟩, v1, v2, v3, v4, v5, v6⟩ := id hP
    have hb := hT.1
    have hT5 := hT.2.1
    obtain ⟨a1, a2, a3, a4, a5, a6, a7, a8⟩ := hT.2.2.2.2 T v1
    have stX : ∀ kb gx1, F_X3_readValue (nI (sR S)) (nI c) gx = some gx1 → F_X3_readRow_76B (nI (sR S)) (nI T) kb (1, nI c, gx) = if (gi gx1 1 9) = 0 then if (gi gx1 1 5) = 44 then F_X3_readRow_123 kb (nI (sR S)) (nI T) (nI (c + 1)) 1 gx1 else kb (0, nI (c + 1), gx1) else kb (0, nI (c + 1), gx1) := by
      intro kb gx1 h1
      unfold F_X3_readRow_76B F_X3_readRow_122
      dsimp only
      rw [if_neg (by decide), if_neg (show ¬ (5 : Int32) < nI c from nI_nlt (a := 5) (b := c) (by omega) (by decide)), h1, Option.bind_some, lt_def, nI_1]
      rfl
    by_cases e1 : c = sC S T
    · obtain ⟨gx1, gm1, h1, h2, h3, h4, h5⟩ := s_wrong hS
      have r24 : gi gm1 0 24 = nI b := by rw [h5.1 _ _ (fun q => by have := q.2; omega)]; exact hrb
      obtain ⟨f1, gm2, f2, _, f4, f5⟩ := f_rowEnd h3 hb (show T < 5 by omega) v2 r24 (x := nI (c + 1))
      refine ⟨gx1, gm2, ?_, ?_, h4.psx, h5.psm.tr f5, Or.inr f4⟩
      · have hv : F_X3_readValue (nI (sR S)) (nI c) gx = some gx1 := by
          unfold F_X3_readValue
          rw [ck_true (inB_nI (by omega) (by decide)), nI_clamp (by omega), v3, lt_def, x_hasColumn_p hT.2.1 hT.2.2.1 v1 a4 a1 (by omega), if_neg (by omega), Option.bind_some, if_pos rfl, h1, Option.bind_some]
        have := stX (fixN (F_X3_readRow_76B (nI (sR S)) (nI T)) (n + 1)) gx1 hv
        rw [if_neg h3.nx] at this
        exact this.trans (x76_0.trans f1)
      · have st : ∀ kb, F_X7_readRow_127B (nI (5 * b + T)) (nI (16 * b + sR S)) kb (nI c, 1, gm) = kb (nI (c + 1), 0, gm1) := by
          intro kb
          unfold F_X7_readRow_127B F_X7_readRow_153 F_X7_readRow_187 F_X7_readRow_210 F_X7_readRow_211
          dsimp only
          rw [if_neg (by decide), m_good hS.f0m, Option.bind_some, if_neg (by decide), ck_true (inB_nI (by omega) (by decide)), nI_clamp (by omega), a5, if_pos (by rw [e1]), h2, Option.bind_some, h3.bad, Option.bind_some, if_pos rfl, lt_def, nI_1, Option.bind_some, if_pos rfl, if_pos rfl]
        exact (st _).trans (m127_0.trans f2)
    · obtain ⟨gx1, gm1, h1, h2, h3, h4, h5⟩ := s_readValue hS hP (show c < sC S T by omega)
      have r24 : gi gm1 0 24 = nI b := by rw [h4.m0 (by decide)]; exact hrb
      have c4 := (a8 c (by omega)).2.2.2
      have hl := (a8 c (by omega)).2.1
      have stM : ∀ kb, F_X7_readRow_127B (nI (5 * b + T)) (nI (16 * b + sR S)) kb (nI c, 1, gm) = (F_X7_isGood gm1).bind fun r_11 => if r_11 = 0 then kb (nI (c + 1), 0, gm1) else (F_X7_is 44 gm1).bind fun r_12 => if r_12 = 0 then kb (nI (c + 1), 0, gm1) else F_X7_readRow_211 kb (nI (5 * b + T)) (nI (16 * b + sR S)) (nI (c + 1)) 1 gm1 := by
        intro kb
        have hv : (if gi gm 7 (5 * (5 * b + T) + c) < 0 then F_X7_readRow_184 kb (nI (5 * b + T)) (nI (16 * b + sR S)) (nI c) 0 (nI (5 * (16 * b + sR S) + c)) gm else F_X7_readRow_184 kb (nI (5 * b + T)) (nI (16 * b + sR S)) (nI c) 1 (nI (5 * (16 * b + sR S) + c)) gm) = F_X7_readRow_187 kb (nI (5 * b + T)) (nI (16 * b + sR S)) (nI c) gm1 := by
          unfold F_X7_readRow_184
          rw [c4]
          by_cases cl : sL S T c = 0
          · rw [if_pos cl] at h2
            rw [if_pos ((cd_neg (by omega)).mpr cl), h2, Option.bind_some]
          · rw [if_neg cl] at h2
            rw [if_neg (fun q => cl ((cd_neg (by omega)).mp q)), h2, Option.bind_some]
        unfold F_X7_readRow_127B F_X7_readRow_153
        dsimp only
        rw [if_neg (by decide), m_good hS.f0m, Option.bind_some, if_neg (by decide), ck_true (inB_nI (by omega) (by decide)), nI_clamp (by omega), a5, if_neg (fun q => e1 ((nI_eq (by omega) (by omega)).mp q)), Option.bind_some, if_neg (by decide), l5, nI_add, ck_true (inB_nI (by omega) (by decide)), nI_clamp (by omega), l5, nI_add, hv]
        unfold F_X7_readRow_187 F_X7_readRow_210 F_X7_readRow_211
        rw [lt_def, nI_1]
        rfl
      have eX := stX (fixN (F_X3_readRow_76B (nI (sR S)) (nI T)) (n + 1)) gx1 h1
      have eM := stM (fixN (F_X7_readRow_127B (nI (5 * b + T)) (nI (16 * b + sR S))) (m + 1))
      have eX' : fixN (F_X3_readRow_76B (nI (sR S)) (nI T)) (n + 2) (1, nI c, gx) = _ := eX
      have eM' : fixN (F_X7_readRow_127B (nI (5 * b + T)) (nI (16 * b + sR S))) (m + 2) (nI c, 1, gm) = _ := eM
      have eX0 : ∀ g, fixN (F_X3_readRow_76B (nI (sR S)) (nI T)) (n + 1) (0, nI (c + 1), g) = F_X3_readRow_138 (nI T) (nI (c + 1)) g := fun g => x76_0
      have eM0 : ∀ g, fixN (F_X7_readRow_127B (nI (5 * b + T)) (nI (16 * b + sR S))) (m + 1) (nI (c + 1), 0, g) = F_X7_readRow_225 (nI (5 * b + T)) (nI (16 * b + sR S)) (nI (c + 1)) g := fun g => m127_0
      rw [eX', eM', eX0, eM0]
      rcases h5 with ⟨t1, s1, e1', v, p1, p2⟩ | hF
      · rw [if_pos p1.f0x, m_good p1.f0m, Option.bind_some, if_neg (show ¬ (1 : Int32) = 0 by decide)]
        have hk : gi gx1 1 5 = 44 ↔ t1 = Tk.sgn 44 := by rw [p1.kx]; exact k_sgn p1.dx (d := 44) (by decide)
        by_cases c5 : t1 = Tk.sgn 44
        · have m1 : F_X7_is 44 gm1 = some 1 := (m_is p1 (d := 44) (by decide)).1 c5
          obtain ⟨gx2, gm2, t2, s2, e2, q1, q2, q3, q4, q5, q6⟩ := s_adv p1
          have r24' : gi gm2 0 24 = nI b := by rw [q6.1 _ _ (fun q => by have := q.2; omega)]; exact r24
          rw [if_pos (hk.mpr c5), m1, Option.bind_some, if_neg (show ¬ (1 : Int32) = 0 by decide)]
          unfold F_X3_readRow_123 F_X7_readRow_211
          rw [if_neg (show ¬ (1 : Int32) = 0 by decide), if_neg (show ¬ (1 : Int32) = 0 by decide), q1, q2, Option.bind_some, Option.bind_some]
          obtain ⟨gx3, gm3, w1, w2, w3, w4, w5⟩ := ih (c + 1) gx2 gm2 t2 s2 e2 _ (by omega) (by omega) q3 (p2.ow q5 q6) r24' (n + 1) (m + 1) (by omega) (by omega)
          exact ⟨gx3, gm3, w1, w2, (h3.tr q5.psx).tr w3, (h4.tr q6.psm).tr w4, w5⟩
        · have m1 : F_X7_is 44 gm1 = some 0 := (m_is p1 (d := 44) (by decide)).2 c5
          rw [if_neg (fun q => c5 (hk.mp q)), m1, Option.bind_some, if_pos (show (0 : Int32) = 0 from rfl)]
          obtain ⟨gx2, gm2, q1, q2, q3, q4, q5⟩ := s_rowEnd p1 p2 r24 (by omega)
          refine ⟨gx2, gm2, q1, q2, h3.tr q3, h4.tr q4, ?_⟩
          rcases q5 with ⟨t', s', e', z1, z2⟩ | z
          · exact Or.inl ⟨t', s', e', _, z1, z2⟩
          · exact Or.inr z
      · rw [if_neg hF.nx, hF.bad, Option.bind_some, if_pos (show (0 : Int32) = 0 from rfl)]
        obtain ⟨f1, gm2, f2, _, f4, f5⟩ := f_rowEnd hF hb (show T < 5 by omega) v2 r24 (x := nI (c + 1))
        exact ⟨gx1, gm2, f1, f2, h3, h4.tr f5, Or.inr f4⟩
end RROW
