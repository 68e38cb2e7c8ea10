/-! readValue on both sides -/
/-- a row of table T that is being read: c values told -/
def RV (b : Nat) (gx gm : GM) (S : St) (T c : Nat) (va : Nat → Nat) : Prop :=
  T < sT S ∧ sR S < 16 ∧ gi gx 23 (sR S) = nI T ∧ gi gx 24 (sR S) = nI (sQ S T) ∧ (∀ c', c' < c → va c' ≤ 1000000 ∧ gi gx 25 (sR S * 5 + c') = cd 0 (va c') ∧ gi gm 10 (5 * (16 * b + sR S) + c') = cd 0 (va c') ∧ (0 < va c' → ∃ p, p ≤ 1200 ∧ gi gx 26 (sR S * 5 + c') = nI p ∧ gi gm 11 (5 * (16 * b + sR S) + c') = nI p)) ∧ ∀ c', c ≤ c' → c' < 5 → gi gx 25 (sR S * 5 + c') = -1
/-- what is told already -/
def RO (b : Nat) (gx gm : GM) (S : St) : Prop := RT 17 b gx gm S ∧ RRw 17 b gx gm S ∧ (∀ r, r < sR S → ∀ c, c < 5 → gi gx 25 (r * 5 + c) = (if c < sC S (sB S r) then cd 0 (sV S r c) else -1) ∧ (c < sC S (sB S r) → 0 < sV S r c → ∃ p, p ≤ 1200 ∧ gi gx 26 (r * 5 + c) = nI p ∧ gi gm 11 (5 * (16 * b + r) + c) = nI p)) ∧ ∀ r, sR S < r → r < 16 → ∀ c, c < 5 → gi gx 25 (r * 5 + c) = -1
theorem RO.cells {b : Nat} {gx gm gx' gm' : GM} {S : St} {k : Nat} (h : RO b gx gm S) (hk : k < 5) (hR : sR S < 16)
    (x4 : ∀ a i, ¬ (a = 25 ∧ i = sR S * 5 + k) → ¬ (a = 26 ∧ i = sR S * 5 + k) → 17 ≤ a → a ≤ 27 → gi gx' a i = gi gx a i) (x5 : ∀ a i, 17 ≤ a → a ≤ 27 → gl gx' a i = gl gx a i)
    (y4 : ∀ a i, ¬ (a = 10 ∧ i = 5 * (16 * b + sR S) + k) → ¬ (a = 11 ∧ i = 5 * (16 * b + sR S) + k) → 3 ≤ a → a ≤ 13 → gi gm' a i = gi gm a i) (y5 : ∀ a i, 3 ≤ a → a ≤ 13 → gl gm' a i = gl gm a i) : RO b gx' gm' S := by
  obtain ⟨⟨h1, h2, h3, h4, h5⟩, ⟨r1, r2, r3, r4, r5⟩, q1, q2⟩ := h
  refine ⟨⟨h1, h2, ?_, ?_, fun t ht => ?_⟩, ⟨r1, ?_, ?_, fun r hr => ?_, r5⟩, fun r hr c hc => ?_, fun r z1 z2 c hc => ?_⟩
  · rw [x4 _ _ (by omega) (by omega) (by omega) (by omega)]; exact h3
  · rw [y4 _ _ (by omega) (by omega) (by omega) (by omega)]; exact h4
  · obtain ⟨a1, a2, a3, a4, a5, a6, a7, a8⟩ := h5 t ht
    refine ⟨a1, a2, ?_, ?_, ?_, ?_, ?_, fun c hc' => ?_⟩
    · rw [x5 _ _ (by omega) (by omega), y5 _ _ (by omega) (by omega)]; exact a3
    · rw [x4 _ _ (by omega) (by omega) (by omega) (by omega)]; exact a4
    · rw [y4 _ _ (by omega) (by omega) (by omega) (by omega)]; exact a5
    · rw [x4 _ _ (by omega) (by omega) (by omega) (by omega)]; exact a6
    · rw [y4 _ _ (by omega) (by omega) (by omega) (by omega)]; exact a7
    · obtain ⟨c1, c2, c3, c4⟩ := a8 c hc'
      refine ⟨?_, c2, ?_, ?_⟩
      · rw [x5 _ _ (by omega) (by omega), y5 _ _ (by omega) (by omega)]; exact c1
      · rw [x4 _ _ (by omega) (by omega) (by omega) (by omega)]; exact c3
      · rw [y4 _ _ (by omega) (by omega) (by omega) (by omega)]; exact c4
  · rw [x4 _ _ (by omega) (by omega) (by omega) (by omega)]; exact r2
  · rw [y4 _ _ (by omega) (by omega) (by omega) (by omega)]; exact r3
  · obtain ⟨a1, a2, a3, a4, a5, a6, a7⟩ := r4 r hr
    have hC := (h5 _ a1).1
    refine ⟨a1, a2, ?_, ?_, ?_, ?_, fun c hc' => ?_⟩
    · rw [x4 _ _ (by omega) (by omega) (by omega) (by omega)]; exact a3
    · rw [y4 _ _ (by omega) (by omega) (by omega) (by omega)]; exact a4
    · rw [x4 _ _ (by omega) (by omega) (by omega) (by omega)]; exact a5
    · rw [y4 _ _ (by omega) (by omega) (by omega) (by omega)]; exact a6
    · rw [y4 _ _ (by omega) (by omega) (by omega) (by omega)]; exact a7 c hc'
  · rw [x4 _ _ (by omega) (by omega) (by omega) (by omega), x4 _ _ (by omega) (by omega) (by omega) (by omega), y4 _ _ (by omega) (by omega) (by omega) (by omega)]
    exact q1 r hr c hc
  · rw [x4 _ _ (by omega) (by omega) (by omega) (by omega)]
    exact q2 r z1 z2 c hc
def RP (b : Nat) (gx gm : GM) (S : St) (T c : Nat) (va : Nat → Nat) : Prop := RO b gx gm S ∧ RV b gx gm S T c va
theorem RP.cells {b : Nat} {gx gm gx' gm' : GM} {S : St} {T k v : Nat} {va : Nat → Nat} (h : RP b gx gm S T k va) (hk : k < 5) (hv : v ≤ 1000000)
    (x1 : gi gx' 25 (sR S * 5 + k) = cd 0 v) (y1 : gi gm' 10 (5 * (16 * b + sR S) + k) = cd 0 v) (z1 : 0 < v → ∃ p, p ≤ 1200 ∧ gi gx' 26 (sR S * 5 + k) = nI p ∧ gi gm' 11 (5 * (16 * b + sR S) + k) = nI p)
    (x4 : ∀ a i, ¬ (a = 25 ∧ i = sR S * 5 + k) → ¬ (a = 26 ∧ i = sR S * 5 + k) → 17 ≤ a → a ≤ 27 → gi gx' a i = gi gx a i) (x5 : ∀ a i, 17 ≤ a → a ≤ 27 → gl gx' a i = gl gx a i)
    (y4 : ∀ a i, ¬ (a = 10 ∧ i = 5 * (16 * b + sR S) + k) → ¬ (a = 11 ∧ i = 5 * (16 * b + sR S) + k) → 3 ≤ a → a ≤ 13 → gi gm' a i = gi gm a i) (y5 : ∀ a i, 3 ≤ a → a ≤ 13 → gl gm' a i = gl gm a i) : RP b gx' gm' S T (k + 1) (fun c => if c = k then v else va c) := by
  obtain ⟨hO, v1, v2, v3, v4, v5, v6⟩ := h
  refine ⟨hO.cells hk v2 x4 x5 y4 y5, v1, v2, ?_, ?_, fun c hc => ?_, fun c c1 c2 => ?_⟩
  · rw [x4 _ _ (by omega) (by omega) (by omega) (by omega)]; exact v3
  · rw [x4 _ _ (by omega) (by omega) (by omega) (by omega)]; exact v4
  · by_cases e : c = k
    · subst e
      simp only [if_true]
      exact ⟨hv, x1, y1, z1⟩
    · simp only [if_neg e]
      rw [x4 _ _ (by omega) (by omega) (by omega) (by omega), x4 _ _ (by omega) (by omega) (by omega) (by omega), y4 _ _ (by omega) (by omega) (by omega) (by omega), y4 _ _ (by omega) (by omega) (by omega) (by omega)]
      exact v5 c (by omega)
  · rw [x4 _ _ (by omega) (by omega) (by omega) (by omega)]
    exact v6 c (by omega) c2
theorem RP.ow {b : Nat} {gx gm gx' gm' : GM} {S : St} {T c : Nat} {va : Nat → Nat} (h : RP b gx gm S T c va) (hx : Ow PT QT gx gx') (hm : Ow PTm QTm gm gm') : RP b gx' gm' S T c va := by
  have ax : ∀ a i, 17 ≤ a → a ≤ 27 → gi gx' a i = gi gx a i := fun a i h1 h2 => hx.1 _ _ (fun q => by have := q.1; omega)
  have al : ∀ a i, 17 ≤ a → a ≤ 27 → gl gx' a i = gl gx a i := fun a i h1 h2 => hx.2 _ _ (fun q => by have := q.1; omega)
  have am : ∀ a i, 3 ≤ a → a ≤ 13 → gi gm' a i = gi gm a i := fun a i h1 h2 => hm.1 _ _ (fun q => by have := q.1; omega)
  have aml : ∀ a i, 3 ≤ a → a ≤ 13 → gl gm' a i = gl gm a i := fun a i h1 h2 => hm.2 _ _ (fun q => by have := q.1; omega)
  obtain ⟨hO, v1, v2, v3, v4, v5, v6⟩ := h
  refine ⟨hO.cells (k := 0) (by decide) v2 (fun a i _ _ h1 h2 => ax a i h1 h2) al (fun a i _ _ h1 h2 => am a i h1 h2) aml, v1, v2, ?_, ?_, fun c hc => ?_, fun c c1 c2 => ?_⟩
  · rw [ax _ _ (by omega) (by omega)]; exact v3
  · rw [ax _ _ (by omega) (by omega)]; exact v4
  · rw [ax _ _ (by omega) (by omega), ax _ _ (by omega) (by omega), am _ _ (by omega) (by omega), am _ _ (by omega) (by omega)]
    exact v5 c hc
  · rw [ax _ _ (by omega) (by omega)]
    exact v6 c c1 c2
section RVAL
variable {gx gm : GM} {len : Nat} {tx : Nat → Nat} {t : Tk} {s e b T c : Nat} {S : St} {va : Nat → Nat}
/-- the number itself -/
theorem s_value76 (hS : Sy gx gm len tx false t s e) (hP : RP b gx gm S T c va) (hc : c < sC S T) :
    ∃ gx' gm', F_X3_readValue_76 (nI (sR S)) (nI c) gx = some gx' ∧ F_X7_readValue_35 (nI (5 * (16 * b + sR S) + c)) gm = some gm' ∧ Ow PSx QSx gx gx' ∧ Ow (PSm b) (QSm b) gm gm' ∧ ((∃ t' s' e' v, Sy gx' gm' len tx false t' s' e' ∧ RP b gx' gm' S T (c + 1) (fun i => if i = c then v else va i)) ∨ Fa gx' gm') := by
  obtain ⟨⟨hT, hRw, _⟩, v1, v2, v3, v4, v5, v6⟩ := id hP
  have hb := hT.1
  have hC := (hT.2.2.2.2 T v1).1
  have hs := hS.ln
  have tgx : TgX gx (si gx 26 (sR S * 5 + c) (nI s)) := (TgX.rf gx).si (by decide) (by decide)
  have tgm : TgM gm (si (si gm 11 (5 * (16 * b + sR S) + c) (nI s)) 10 (5 * (16 * b + sR S) + c) (gi gm 0 9)) := ((TgM.rf gm).si (Or.inl (by decide)) (by decide)).si (Or.inl (by decide)) (by decide)
  have hS1 := hS.tg tgx tgm
  have hx1 : Ow PSx QSx gx (si gx 26 (sR S * 5 + c) (nI s)) := (Ow.rf gx).si (Or.inr ⟨by decide, by decide⟩)
  have hm1 : Ow (PSm b) (QSm b) gm (si (si gm 11 (5 * (16 * b + sR S) + c) (nI s)) 10 (5 * (16 * b + sR S) + c) (gi gm 0 9)) := ((Ow.rf gm).si (Or.inr (by unfold BKm; omega))).si (Or.inr (by unfold BKm; omega))
  have eX : F_X3_readValue_76 (nI (sR S)) (nI c) gx = (F_X4_take 3 (si gx 26 (sR S * 5 + c) (nI s))).bind fun q => if q.1 = 0 then some q.2 else some (si q.2 25 (sR S * 5 + c) (gi gx 1 7)) := by
    unfold F_X3_readValue_76
    rw [lt_def, x_slot, Option.bind_some, ck_true (inB_nI (by omega) (by decide)), nI_clamp (by omega), hS.sx, lt_def]
    simp only [Option.bind_some, ck_true (inB_nI (show sR S * 5 + c < 80 by omega) (by decide)), lt_def, nI_clamp (show sR S * 5 + c < 2 ^ 31 by omega)]
  have eM : F_X7_readValue_35 (nI (5 * (16 * b + sR S) + c)) gm = if (gi gm 0 8) = 4 then F_X7_must 1 (si (si gm 11 (5 * (16 * b + sR S) + c) (nI s)) 10 (5 * (16 * b + sR S) + c) (gi gm 0 9)) else F_X7_must 0 (si (si gm 11 (5 * (16 * b + sR S) + c) (nI s)) 10 (5 * (16 * b + sR S) + c) (gi gm 0 9)) := by
    unfold F_X7_readValue_35 F_X7_readValue_69
    have c1 : gi (si gm 11 (5 * (16 * b + sR S) + c) (nI s)) 0 9 = gi gm 0 9 := by rw [gi_si, if_neg (by omega)]
    have c2 : gi (si (si gm 11 (5 * (16 * b + sR S) + c) (nI s)) 10 (5 * (16 * b + sR S) + c) (gi gm 0 9)) 0 8 = gi gm 0 8 := by rw [gi_si, if_neg (by omega), gi_si, if_neg (by omega)]
    rw [ck_true (inB_nI (by omega) (by decide)), nI_clamp (by omega), hS.sm, lt_def, ck_true (inB_nI (by omega) (by decide)), lt_def, c1, c2]
    simp only [Option.bind_fun_some]
  rw [eX, eM]
  rcases Tk.isNum t with ⟨k, rfl⟩ | hn
  · obtain ⟨n1, n2, n3, n4, n5⟩ := hS.num
    obtain ⟨gx2, gm2, t2, s2, e2, p1, p2, p3, p4, p5, p6⟩ := s_adv hS1
    have k1 : F_X4_take 3 (si gx 26 (sR S * 5 + c) (nI s)) = some (1, gx2) := by
      unfold F_X4_take
      rw [if_pos hS1.f0x, if_pos hS1.num.1, p1, Option.bind_some]
    have k2 : F_X7_must 1 (si (si gm 11 (5 * (16 * b + sR S) + c) (nI s)) 10 (5 * (16 * b + sR S) + c) (gi gm 0 9)) = some gm2 := by
      unfold F_X7_must
      rw [m_good hS1.f0m, Option.bind_some, if_neg (by decide), if_neg (by decide), p2, Option.bind_some]
    rw [k1, Option.bind_some, if_pos n2, k2, if_neg (show ¬ (1 : Int32) = 0 by decide), n3]
    have px : ∀ a i, 17 ≤ a → a ≤ 27 → gi gx2 a i = gi (si gx 26 (sR S * 5 + c) (nI s)) a i := fun a i h1 h2 => p5.1 _ _ (fun q => by have := q.1; omega)
    have pm : ∀ a i, 3 ≤ a → a ≤ 13 → gi gm2 a i = gi (si (si gm 11 (5 * (16 * b + sR S) + c) (nI s)) 10 (5 * (16 * b + sR S) + c) (gi gm 0 9)) a i := fun a i h1 h2 => p6.1 _ _ (fun q => by have := q.1; omega)
    refine ⟨_, gm2, rfl, rfl, (hx1.tr p5.psx).si (Or.inr ⟨by decide, by decide⟩), hm1.tr p6.psm, Or.inl ⟨t2, s2, e2, k + 1, p3.tg ((TgX.rf gx2).si (by decide) (by decide)) (TgM.rf gm2), ?_⟩⟩
    refine hP.cells (by omega) (by omega) ?_ ?_ (fun _ => ⟨s, by omega, ?_, ?_⟩) (fun a i z1 z2 z3 z4 => ?_) (fun a i z3 z4 => ?_) (fun a i z1 z2 z3 z4 => ?_) (fun a i z3 z4 => ?_)
    · rw [gi_same, cdS, Nat.zero_add]
    · rw [pm _ _ (by omega) (by omega), gi_same, n4, cdS, Nat.zero_add]
    · rw [gi_si, if_neg (by omega), px _ _ (by omega) (by omega), gi_same]
    · rw [pm _ _ (by omega) (by omega), gi_si, if_neg (by omega), gi_same]
    · rw [gi_si, if_neg z1, px _ _ z3 z4, gi_si, if_neg z2]
    · rw [gl_si, p5.2 _ _ (fun q => by have := q.1; omega), gl_si]
    · rw [pm _ _ z3 z4, gi_si, if_neg z1, gi_si, if_neg z2]
    · rw [p6.2 _ _ (fun q => by have := q.1; omega), gl_si, gl_si]
  · obtain ⟨n1, n2⟩ := hS.nnum hn
    obtain ⟨gx2, gm2, h1, h2, h3, h4, h5⟩ := s_wrong hS1
    have k1 : F_X4_take 3 (si gx 26 (sR S * 5 + c) (nI s)) = some (0, gx2) := by
      unfold F_X4_take
      rw [if_pos hS1.f0x, if_neg (hS1.nnum hn).1, h1, Option.bind_some]
    have k2 : F_X7_must 0 (si (si gm 11 (5 * (16 * b + sR S) + c) (nI s)) 10 (5 * (16 * b + sR S) + c) (gi gm 0 9)) = some gm2 := by
      unfold F_X7_must
      rw [m_good hS1.f0m, Option.bind_some, if_neg (by decide), if_pos rfl, h2, Option.bind_some]
    rw [k1, Option.bind_some, if_neg n2, k2, if_pos (show (0 : Int32) = 0 from rfl)]
    exact ⟨gx2, gm2, rfl, rfl, hx1.tr h4.psx, hm1.tr h5.psm, Or.inr h3⟩
theorem f_value35 (hF : Fa gx gm) {v : Nat} (hv : v < 160) (hb : b < 2) (hv2 : 80 * b ≤ v) (hv3 : v < 80 * b + 80) : ∃ gm', F_X7_readValue_35 (nI v) gm = some gm' ∧ Fa gx gm' ∧ Ow (PSm b) (QSm b) gm gm' := by
  unfold F_X7_readValue_35 F_X7_readValue_69
  rw [ck_true (inB_nI (by omega) (by decide)), nI_clamp (by omega), lt_def, ck_true (inB_nI (by omega) (by decide)), lt_def]
  have hF2 : Fa gx (si (si gm 11 v (gi gm 0 6)) 10 v (gi (si gm 11 v (gi gm 0 6)) 0 9)) := hF.tg (TgX.rf gx) (((TgM.rf gm).si (Or.inl (by decide)) (by decide)).si (Or.inl (by decide)) (by decide))
  rw [hF2.must, hF2.must]
  refine ⟨_, ?_, hF2, ((Ow.rf gm).si (Or.inr (by unfold BKm; omega))).si (Or.inr (by unfold BKm; omega))⟩
  split <;> rfl
theorem s_readValue (hS : Sy gx gm len tx false t s e) (hP : RP b gx gm S T c va) (hc : c < sC S T) :
    ∃ gx' gm', F_X3_readValue (nI (sR S)) (nI c) gx = some gx' ∧ F_X7_readValue (nI (5 * (16 * b + sR S) + c)) (if sL S T c = 0 then 0 else 1) gm = some gm' ∧ Ow PSx QSx gx gx' ∧ Ow (PSm b) (QSm b) gm gm' ∧ ((∃ t' s' e' v, Sy gx' gm' len tx false t' s' e' ∧ RP b gx' gm' S T (c + 1) (fun i => if i = c then v else va i)) ∨ Fa gx' gm') := by
  obtain ⟨⟨hT, hRw, _⟩, v1, v2, v3, v4, v5, v6⟩ := id hP
  have hb := hT.1
  obtain ⟨a1, a2, a3, a4, a5, a6, a7, a8⟩ := hT.2.2.2.2 T v1
  have hT5 := hT.2.1
  have tgm : TgM gm (si gm 10 (5 * (16 * b + sR S) + c) (-1)) := (TgM.rf gm).si (Or.inl (by decide)) (by decide)
  have hm1 : Ow (PSm b) (QSm b) gm (si gm 10 (5 * (16 * b + sR S) + c) (-1)) := (Ow.rf gm).si (Or.inr (by unfold BKm; omega))
  have hS1 := hS.tg (TgX.rf gx) tgm
  have hP1 : RP b gx (si gm 10 (5 * (16 * b + sR S) + c) (-1)) S T c va := by
    refine ⟨hP.1.cells (k := c) (by omega) v2 (fun a i _ _ _ _ => rfl) (fun a i _ _ => rfl) (fun a i z1 z2 _ _ => by rw [gi_si, if_neg z1]) (fun a i _ _ => rfl), v1, v2, v3, v4, fun c' hc' => ?_, v6⟩
    rw [gi_si, if_neg (by omega), gi_si, if_neg (by omega)]
    exact v5 c' hc'
  have hcol := x_hasColumn_p hT.2.1 hT.2.2.1 v1 a4 a1 (c := c) (by omega)
  obtain ⟨c1, c2, c3, c4⟩ := a8 c hc
  have htg : F_X2_target_p (nI T) (nI c) gx = some (cd 0 (sL S T c)) := by
    unfold F_X2_target_p
    rw [hcol, if_pos hc, Option.bind_some, if_neg (by decide), x_slot, Option.bind_some, ck_true (inB_nI (by omega) (by decide)), nI_clamp (by omega)]
    exact congrArg some c3
  have eX : F_X3_readValue (nI (sR S)) (nI c) gx = if (gi gx 1 5) = 45 then F_X4_advance gx else if cd 0 (sL S T c) = ((-1)) then F_X3_readValue_76 (nI (sR S)) (nI c) gx else (F_X4_take 35 gx).bind fun q => if q.1 = 0 then some q.2 else F_X3_readValue_76 (nI (sR S)) (nI c) q.2 := by
    unfold F_X3_readValue
    rw [ck_true (inB_nI (by omega) (by decide)), nI_clamp (by omega), v3, lt_def, hcol, if_pos hc, Option.bind_some, if_neg (show ¬ (1 : Int32) = 0 by decide), htg, Option.bind_some]
    simp only [Option.bind_fun_some]
  have eM : ∀ a2, F_X7_readValue (nI (5 * (16 * b + sR S) + c)) a2 gm = (F_X7_is 45 (si gm 10 (5 * (16 * b + sR S) + c) (-1))).bind fun r_5 => if r_5 = 0 then if a2 = 0 then F_X7_readValue_35 (nI (5 * (16 * b + sR S) + c)) (si gm 10 (5 * (16 * b + sR S) + c) (-1)) else (F_X7_is 35 (si gm 10 (5 * (16 * b + sR S) + c) (-1))).bind fun r_6 => (F_X7_must r_6 (si gm 10 (5 * (16 * b + sR S) + c) (-1))).bind fun g_7 => F_X7_readValue_35 (nI (5 * (16 * b + sR S) + c)) g_7 else F_X7_next (si gm 10 (5 * (16 * b + sR S) + c) (-1)) := by
    intro a2
    unfold F_X7_readValue
    rw [ck_true (inB_nI (by omega) (by decide)), nI_clamp (by omega), lt_def]
    simp only [Option.bind_fun_some]
  rw [eX, eM]
  have hk : gi gx 1 5 = 45 ↔ t = Tk.sgn 45 := by rw [hS.kx]; exact k_sgn hS.dx (d := 45) (by decide)
  by_cases c5 : t = Tk.sgn 45
  · have m1 : F_X7_is 45 (si gm 10 (5 * (16 * b + sR S) + c) (-1)) = some 1 := (m_is hS1 (d := 45) (by decide)).1 c5
    obtain ⟨gx2, gm2, t2, s2, e2, p1, p2, p3, p4, p5, p6⟩ := s_adv hS1
    rw [if_pos (hk.mpr c5), m1, Option.bind_some, if_neg (show ¬ (1 : Int32) = 0 by decide), p1, p2]
    refine ⟨gx2, gm2, rfl, rfl, p5.psx, hm1.tr p6.psm, Or.inl ⟨t2, s2, e2, 0, p3, ?_⟩⟩
    refine (hP1.cells (gx' := gx) (gm' := si gm 10 (5 * (16 * b + sR S) + c) (-1)) (by omega) (by omega) ?_ ?_ (fun h => by omega) (fun a i _ _ _ _ => rfl) (fun a i _ _ => rfl) (fun a i _ _ _ _ => rfl) (fun a i _ _ => rfl)).ow p5 p6
    · exact v6 c (Nat.le_refl _) (by omega)
    · rw [gi_same]; rfl
  · have m1 : F_X7_is 45 (si gm 10 (5 * (16 * b + sR S) + c) (-1)) = some 0 := (m_is hS1 (d := 45) (by decide)).2 c5
    rw [if_neg (fun q => c5 (hk.mp q)), m1, Option.bind_some, if_pos (show (0 : Int32) = 0 from rfl)]
    by_cases cl : sL S T c = 0
    · rw [if_pos cl, if_pos (show (0 : Int32) = 0 from rfl), if_pos ((cd_m1 (by omega)).mpr cl)]
      obtain ⟨gx2, gm2, q1, q2, q3, q4, q5⟩ := s_value76 hS1 hP1 hc
      exact ⟨gx2, gm2, q1, q2, q3, hm1.tr q4, q5⟩
    · rw [if_neg cl, if_neg (show ¬ (1 : Int32) = 0 by decide), if_neg (fun q => cl ((cd_m1 (by omega)).mp q))]
      obtain ⟨gx2, gm2, r, u1, u2, u3, u4, u5, u6⟩ := s_take hS1 (d := 35) (by decide)
      have u1' : F_X4_take 35 gx = some (r, gx2) := u1
      have u2' : F_X7_is 35 (si gm 10 (5 * (16 * b + sR S) + c) (-1)) = some r := u2
      rw [u1', u2', Option.bind_some, Option.bind_some, u3, Option.bind_some]
      dsimp only
      rcases u4 with ⟨rfl, _, t2, s2, e2, z1, _⟩ | ⟨rfl, _, hF⟩
      · rw [if_neg (show ¬ (1 : Int32) = 0 by decide)]
        obtain ⟨gx3, gm3, q1, q2, q3, q4, q5⟩ := s_value76 z1 (hP1.ow u5 u6) hc
        exact ⟨gx3, gm3, q1, q2, u5.psx.tr q3, (hm1.tr u6.psm).tr q4, q5⟩
      · rw [if_pos (show (0 : Int32) = 0 from rfl)]
        obtain ⟨gm3, f1, f2, f3⟩ := f_value35 hF (v := 5 * (16 * b + sR S) + c) (b := b) (by omega) hb (by omega) (by omega)
        exact ⟨gx2, gm3, rfl, f1, u5.psx, (hm1.tr u6.psm).tr f3, Or.inr f2⟩
end RVAL
