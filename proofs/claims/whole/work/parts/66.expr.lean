/-! expressions: what both sides hold midway -/
def gmS (gm : GM) (wb z : Nat) (x y : Int32) : GM := si (si (si gm 21 (600 * wb + z) x) 22 (600 * wb + z) y) 0 39 (nI (z + 1))
theorem gmS_ok (gm : GM) (wb z : Nat) (x y : Int32) : gi (gmS gm wb z x y) 21 (600 * wb + z) = x ∧ gi (gmS gm wb z x y) 22 (600 * wb + z) = y ∧ gi (gmS gm wb z x y) 0 39 = nI (z + 1) ∧ (∀ a i, ¬ ((a = 21 ∨ a = 22) ∧ i = 600 * wb + z) → ¬ (a = 0 ∧ i = 39) → gi (gmS gm wb z x y) a i = gi gm a i) ∧ ∀ a i, gl (gmS gm wb z x y) a i = gl gm a i := by
  unfold gmS
  refine ⟨?_, ?_, gi_same, fun a i h1 h2 => ?_, fun _ _ => rfl⟩
  · rw [gi_si, if_neg (by omega), gi_si, if_neg (by omega), gi_same]
  · rw [gi_si, if_neg (by omega), gi_same]
  · rw [gi_si, if_neg h2, gi_si, if_neg (by omega), gi_si, if_neg (by omega)]
theorem gmS_tg {gm : GM} {wb z : Nat} {x y : Int32} : TgM gm (gmS gm wb z x y) := (((TgM.rf gm).si (Or.inl (by decide)) (by decide)).si (Or.inl (by decide)) (by decide)).si (Or.inr (Or.inr (by decide))) (by decide)
theorem m_step {gm : GM} {wb z : Nat} {x y : Int32} (h38 : gi gm 0 38 = nI wb) (h39 : gi gm 0 39 = nI z) (hwb : wb < 2) (hz : z < 600) : F_X7_step x y gm = some (gmS gm wb z x y) := by
  unfold F_X7_step gmS
  have e1 : gi (si gm 21 (600 * wb + z) x) 0 38 = nI wb := by rw [gi_si, if_neg (by omega)]; exact h38
  have e2 : gi (si gm 21 (600 * wb + z) x) 0 39 = nI z := by rw [gi_si, if_neg (by omega)]; exact h39
  have e3 : gi (si (si gm 21 (600 * wb + z) x) 22 (600 * wb + z) y) 0 39 + 1 = nI (z + 1) := by rw [gi_si, if_neg (by omega), e2, nI_1]
  rw [h38, h39, l600, nI_add, ck_true (inB_nI (by omega) (by decide)), nI_clamp (by omega), lt_def, e1, e2, l600, nI_add, ck_true (inB_nI (by omega) (by decide)), nI_clamp (by omega), lt_def, e3, lt_def]
def PEm (wb P N z a i : Nat) : Prop := (a = 0 ∧ ((4 ≤ i ∧ i ≤ 10) ∨ (39 ≤ i ∧ i ≤ 44))) ∨ a = 26 ∨ ((a = 21 ∨ a = 22) ∧ 600 * wb + z ≤ i ∧ i < 600 * wb + 600) ∨ ((a = 23 ∨ a = 24) ∧ 40 * wb + P ≤ i ∧ i < 40 * wb + 40) ∨ (a = 25 ∧ 160 * wb + N ≤ i ∧ i < 160 * wb + 160)
theorem Ow.pex {g g' : GM} (h : Ow PT QT g g') : Ow PMx QT g g' := h.pnx.pmx
theorem Ow.pem {wb P N z : Nat} {g g' : GM} (h : Ow PTm QTm g g') : Ow (PEm wb P N z) QTm g g' := h.mono (fun a b q => Or.inl ⟨q.1, Or.inl q.2⟩) (fun a b q => q)
theorem gmS_ow {gm g : GM} {wb P N z z0 : Nat} {x y : Int32} (h : Ow (PEm wb P N z0) QTm gm g) (h0 : z0 ≤ z) (hz : z < 600) : Ow (PEm wb P N z0) QTm gm (gmS g wb z x y) := ((h.si (Or.inr (Or.inr (Or.inl ⟨Or.inl rfl, by omega, by omega⟩)))).si (Or.inr (Or.inr (Or.inl ⟨Or.inr rfl, by omega, by omega⟩)))).si (Or.inl ⟨rfl, Or.inr (by omega)⟩)
def EX (gx gm : GM) (S : St) (b T wb w a P0 N0 P N z np dp : Nat) (pl : Nat → Nat) (st : List Fn) : Prop :=
  (SS 6 b gx gm S ∧ gi gm 0 23 = nI b ∧ gi gm 15 (10 * wb + w) = nI (5 * b + T) ∧ gi gx 42 6 = nI T ∧ gi gm 0 38 = nI wb) ∧
  (gi gx 42 5 = nI P ∧ gi gm 0 40 = nI P ∧ gi gm 0 41 = nI N ∧ P ≤ 40 ∧ N ≤ 4 * P ∧ P0 ≤ P ∧ N0 ≤ N) ∧
  (gi gm 0 39 = nI z ∧ a ≤ z ∧ ∃ l, Pg gm wb S T P N l a z ∧ rn l [] = some st) ∧
  (gi gm 0 43 = nI np ∧ gi gm 0 44 = nI dp ∧ ∀ j, j < np → gi gm 26 j = nI (pl j))
section EXPR
variable {gx gm : GM} {len : Nat} {tx : Nat → Nat} {t : Tk} {s e b T wb w a P0 N0 P N z np dp : Nat} {S : St} {pl : Nat → Nat} {st : List Fn}
theorem EX.ow {gx' gm' : GM} (h : EX gx gm S b T wb w a P0 N0 P N z np dp pl st) (hx : Ow PT QT gx gx') (hm : Ow PTm QTm gm gm') : EX gx' gm' S b T wb w a P0 N0 P N z np dp pl st := by
  obtain ⟨⟨h1, h2, h3, h4, h5⟩, ⟨h6, h7, h8, h9, h10, h11, h12⟩, ⟨h13, h14, l, h15, h16⟩, h17, h18, h19⟩ := h
  have nx : ∀ a i, ¬ a = 1 → gi gx' a i = gi gx a i := fun a i q => hx.1 a i (fun r => q r.1)
  have nm : ∀ a i, ¬ (a = 0 ∧ i ≤ 10) → gi gm' a i = gi gm a i := fun a i q => hm.1 a i (fun r => q ⟨r.1, r.2.2⟩)
  refine ⟨⟨h1.ow hx hm, by rw [nm _ _ (by omega)]; exact h2, by rw [nm _ _ (by omega)]; exact h3, by rw [nx _ _ (by decide)]; exact h4, by rw [nm _ _ (by omega)]; exact h5⟩, ⟨by rw [nx _ _ (by decide)]; exact h6, by rw [nm _ _ (by omega)]; exact h7, by rw [nm _ _ (by omega)]; exact h8, h9, h10, h11, h12⟩, ⟨by rw [nm _ _ (by omega)]; exact h13, h14, l, ?_, h16⟩, by rw [nm _ _ (by omega)]; exact h17, by rw [nm _ _ (by omega)]; exact h18, fun j hj => by rw [nm _ _ (by omega)]; exact h19 j hj⟩
  exact Pg.ag (zz := z) (fun i _ => ⟨nm _ _ (by omega), nm _ _ (by omega)⟩) (fun i _ => ⟨nm _ _ (by omega), nm _ _ (by omega)⟩) (fun i _ => nm _ _ (by omega)) (Nat.le_refl _) h9 (Nat.le_refl _) (by omega) (Nat.le_refl _) h15
theorem SS.mm {gm' : GM} (h : SS 6 b gx gm S) (h1 : ∀ a i, 3 ≤ a → a ≤ 13 → gi gm' a i = gi gm a i) (h2 : ∀ a i, gl gm' a i = gl gm a i) : SS 6 b gx gm' S := h.mv (fun _ _ _ => ⟨rfl, rfl⟩) (fun a i hq => ⟨h1 a i (by unfold BKm at hq; omega) (by unfold BKm at hq; omega), h2 a i⟩)
/-- an operator comes behind the program -/
theorem EX.op (h : EX gx gm S b T wb w a P0 N0 P N z np dp pl st) {o : Nat} {st' : List Fn} (ho : st1 st (.inr o) = some st') {y : Int32} : EX gx (gmS gm wb z (nI (opc o)) y) S b T wb w a P0 N0 P N (z + 1) np dp pl st' := by
  obtain ⟨⟨h1, h2, h3, h4, h5⟩, ⟨h6, h7, h8, h9, h10, h11, h12⟩, ⟨h13, h14, l, h15, h16⟩, h17, h18, h19⟩ := h
  obtain ⟨k1, k2, k3, k4, k5⟩ := gmS_ok gm wb z (nI (opc o)) y
  refine ⟨⟨h1.mm (fun a i p q => k4 a i (by omega) (by omega)) k5, by rw [k4 _ _ (by omega) (by omega)]; exact h2, by rw [k4 _ _ (by omega) (by omega)]; exact h3, h4, by rw [k4 _ _ (by omega) (by omega)]; exact h5⟩, ⟨h6, by rw [k4 _ _ (by omega) (by omega)]; exact h7, by rw [k4 _ _ (by omega) (by omega)]; exact h8, h9, h10, h11, h12⟩, ⟨k3, by omega, l ++ [.inr o], ?_, ?_⟩, by rw [k4 _ _ (by omega) (by omega)]; exact h17, by rw [k4 _ _ (by omega) (by omega)]; exact h18, fun j hj => by rw [k4 _ _ (by omega) (by omega)]; exact h19 j hj⟩
  · refine Pg.app (l' := [.inr o]) (y := z) (show Pg (gmS gm wb z (nI (opc o)) y) wb S T P N [.inr o] z (z + 1) from ⟨k1, rfl⟩) ?_
    exact Pg.ag (zz := z) (fun i hi => ⟨k4 _ _ (by omega) (by omega), k4 _ _ (by omega) (by omega)⟩) (fun i _ => ⟨k4 _ _ (by omega) (by omega), k4 _ _ (by omega) (by omega)⟩) (fun i _ => k4 _ _ (by omega) (by omega)) (Nat.le_refl _) h9 (Nat.le_refl _) (by omega) (Nat.le_refl _) h15
  · rw [rn_app, h16, Option.bind_some]
    show (st1 st (.inr o)).bind (rn []) = _
    rw [ho]; rfl
/-- an entry of the pile comes or goes -/
theorem EX.pil (h : EX gx gm S b T wb w a P0 N0 P N z np dp pl st) {gm' : GM} {np' dp' : Nat} {pl' : Nat → Nat} (h1 : ∀ a i, ¬ a = 26 → ¬ (a = 0 ∧ (i = 43 ∨ i = 44)) → gi gm' a i = gi gm a i) (h2 : ∀ a i, gl gm' a i = gl gm a i) (h3 : gi gm' 0 43 = nI np') (h4 : gi gm' 0 44 = nI dp') (h5 : ∀ j, j < np' → gi gm' 26 j = nI (pl' j)) : EX gx gm' S b T wb w a P0 N0 P N z np' dp' pl' st := by
  obtain ⟨⟨g1, g2, g3, g4, g5⟩, ⟨g6, g7, g8, g9, g10, g11, g12⟩, ⟨g13, g14, l, g15, g16⟩, g17, g18, g19⟩ := h
  refine ⟨⟨g1.mm (fun a i p q => h1 a i (by omega) (by omega)) h2, by rw [h1 _ _ (by omega) (by omega)]; exact g2, by rw [h1 _ _ (by omega) (by omega)]; exact g3, g4, by rw [h1 _ _ (by omega) (by omega)]; exact g5⟩, ⟨g6, by rw [h1 _ _ (by omega) (by omega)]; exact g7, by rw [h1 _ _ (by omega) (by omega)]; exact g8, g9, g10, g11, g12⟩, ⟨by rw [h1 _ _ (by omega) (by omega)]; exact g13, g14, l, ?_, g16⟩, h3, h4, h5⟩
  exact Pg.ag (zz := z) (fun i hi => ⟨h1 _ _ (by omega) (by omega), h1 _ _ (by omega) (by omega)⟩) (fun i _ => ⟨h1 _ _ (by omega) (by omega), h1 _ _ (by omega) (by omega)⟩) (fun i _ => h1 _ _ (by omega) (by omega)) (Nat.le_refl _) g9 (Nat.le_refl _) (by omega) (Nat.le_refl _) g15
/-- bits beside a test -/
def BR (S : St) (T m : Nat) (f : Nat → Bool) : Prop := ∀ r, r < sR S → sB S r = T → m.testBit r = f r
theorem s_atom (hT : T < sT S) (hwb : wb < 2) (hw : w < 10) (hS : Sy gx gm len tx true t s e) (hE : EX gx gm S b T wb w a P0 N0 P N z np dp pl st) (hlen : len ≤ 600) (hz : z + np ≤ s + 1) (hnp : 1 ≤ np) (hst : st.length < 50) (ht1 : ¬ t = Tk.sgn 40) (ht2 : ¬ t = Tk.wrd 8) :
    ∃ gx' gm' r, ((F_X5_readPath gx).bind fun g_1 => (F_X5_readComparison g_1).bind fun (r_2, g_3) => some (r_2, g_3)) = some (r, gx') ∧ Ow PMx QT gx gx' ∧ Ow (PEm wb P0 N0 a) QTm gm gm' ∧
    ((Fa gx' gm' ∧ F_X7_one (nI (10 * wb + w)) gm = some (1, gm')) ∨ (∃ t' s' e' P' N' f m, F_X7_one (nI (10 * wb + w)) gm = some (0, gm') ∧ Sy gx' gm' len tx true t' s' e' ∧ s < s' ∧ z + 2 + np ≤ s' + 1 ∧ EX gx' gm' S b T wb w a P0 N0 P' N' (z + 2) np dp pl (f :: st) ∧ r = nI m ∧ m < 65536 ∧ BR S T m f)) := by
  have hE0 := hE
  obtain ⟨⟨h1, h2, h3, h4, h5⟩, ⟨h6, h7, h8, h9, h10, h11, h12⟩, ⟨h13, h14, l, h15, h16⟩, h17, h18, h19⟩ := hE
  have n16 := h1.r16
  obtain ⟨gx1, gm1, p1, p2, p3, p4, p5⟩ := s_readPath hS h1 h2 hT h4 h6 h5 hwb h7 h8 h9 h10
  have i40 : F_X7_is 40 gm = some 0 := (m_is hS (d := 40) (by decide)).2 ht1
  have iw : F_X7_isWord 7237492 gm = some 0 := by
    have := (m_isWord hS (j := 8) (by decide)).2 ht2
    rw [wM_tab.2.2.2.2.2.2.2.2.1] at this
    exact this
  have eM : F_X7_one (nI (10 * wb + w)) gm = (F_X7_isGood gm1).bind fun r_20 => if r_20 = 0 then F_X7_one_114 gm1 else (F_X7_is 60 gm1).bind fun r_21 => if r_21 = 0 then (F_X7_is 62 gm1).bind fun r_22 => if r_22 = 0 then (F_X7_is 61 gm1).bind fun r_23 => if r_23 = 0 then (F_X7_wrong gm1).bind fun g_24 => F_X7_one_114 g_24 else F_X7_one_114 gm1 else F_X7_one_114 gm1 else F_X7_one_114 gm1 := by
    unfold F_X7_one
    rw [i40, Option.bind_some, if_pos rfl, iw, Option.bind_some, if_pos rfl, ck_true (inB_nI (by omega) (by decide)), nI_clamp (by omega), h3, p2, Option.bind_some]
  have om1 : Ow (PEm wb P0 N0 a) QTm gm gm1 := p4.mono (fun a i q => by unfold PMm at q; unfold PEm; omega) (fun a i q => q)
  have ox1 : Ow PMx QT gx gx1 := p3
  rw [p1, Option.bind_some]
  have bad : Fa gx1 gm1 → ∃ gx' gm' r, ((F_X5_readComparison gx1).bind fun (r_2, g_3) => some (r_2, g_3)) = some (r, gx') ∧ Ow PMx QT gx gx' ∧ Ow (PEm wb P0 N0 a) QTm gm gm' ∧ (Fa gx' gm' ∧ F_X7_one (nI (10 * wb + w)) gm = some (1, gm')) := by
    intro hF
    refine ⟨gx1, gm1, 0, ?_, ox1, om1, hF, ?_⟩
    · unfold F_X5_readComparison F_X5_readComparison_33
      rw [lt_def, hF.refuseT, Option.bind_some, if_neg hF.nx]
      split
      · rfl
      · split
        · rfl
        · split <;> rfl
    · rw [eM, hF.bad, Option.bind_some, if_pos rfl]
      unfold F_X7_one_114
      rw [hF.bad, Option.bind_some, if_pos rfl]
  rcases p5 with hF | ⟨t1, s1, e1, p, L, y1, y2, y3, y4, ⟨y5, y6⟩, y7, y8, y9, y10, y11, y12⟩
  · obtain ⟨gx', gm', r, q1, q2, q3, q4⟩ := bad hF
    exact ⟨gx', gm', r, q1, q2, q3, Or.inl q4⟩
  · have hL4 : L ≤ 4 := by obtain ⟨l, rfl, h, _⟩ := y3; omega
    have g1 := y1.ln
    have b23 : gi gm1 0 23 = nI b := by rw [p4.1 _ _ (by unfold PMm; omega)]; exact h2
    have b38 : gi gm1 0 38 = nI wb := by rw [p4.1 _ _ (by unfold PMm; omega)]; exact h5
    have b39 : gi gm1 0 39 = nI z := by rw [p4.1 _ _ (by unfold PMm; omega)]; exact h13
    have b426 : gi gx1 42 6 = nI T := by rw [p3.1 _ _ (by unfold PMx; omega)]; exact h4
    have hss1 : SS 6 b gx1 gm1 S := h1.mv (fun a i ha => ⟨p3.1 _ _ (by unfold PMx; omega), p3.2 _ _ (by unfold QT; omega)⟩) (fun a i hq => ⟨p4.1 _ _ (by unfold PMm; unfold BKm at hq; omega), p4.2 _ _ (by unfold QTm; unfold BKm at hq; omega)⟩)
    have hE1 : EX gx1 gm1 S b T wb w a P0 N0 (P + 1) (N + L) z np dp pl st := by
      refine ⟨⟨hss1, b23, by rw [p4.1 _ _ (by unfold PMm; omega)]; exact h3, b426, b38⟩, ⟨y7, y8, y9, by omega, by omega, by omega, by omega⟩, ⟨b39, h14, l, ?_, h16⟩, by rw [p4.1 _ _ (by unfold PMm; omega)]; exact h17, by rw [p4.1 _ _ (by unfold PMm; omega)]; exact h18, fun j hj => by rw [p4.1 _ _ (by unfold PMm; omega)]; exact h19 j hj⟩
      exact Pg.ag (zz := z) (fun i hi => ⟨p4.1 _ _ (by unfold PMm; omega), p4.1 _ _ (by unfold PMm; omega)⟩) (fun i hi => ⟨p4.1 _ _ (by unfold PMm; omega), p4.1 _ _ (by unfold PMm; omega)⟩) (fun i hi => p4.1 _ _ (by unfold PMm; omega)) (by omega) (by omega) (by omega) (by omega) (Nat.le_refl _) h15
    -- a sign
    have key : ∀ c, (c = 60 ∨ c = 61 ∨ c = 62) → t1 = Tk.sgn c → F_X5_readComparison gx1 = F_X5_readComparison_33 (nI c) gx1 → F_X7_one (nI (10 * wb + w)) gm = F_X7_one_114 gm1 → ∃ gx' gm' r, ((F_X5_readComparison gx1).bind fun (r_2, g_3) => some (r_2, g_3)) = some (r, gx') ∧ Ow PMx QT gx gx' ∧ Ow (PEm wb P0 N0 a) QTm gm gm' ∧
        ((Fa gx' gm' ∧ F_X7_one (nI (10 * wb + w)) gm = some (1, gm')) ∨ (∃ t' s' e' P' N' f m, F_X7_one (nI (10 * wb + w)) gm = some (0, gm') ∧ Sy gx' gm' len tx true t' s' e' ∧ s < s' ∧ z + 2 + np ≤ s' + 1 ∧ EX gx' gm' S b T wb w a P0 N0 P' N' (z + 2) np dp pl (f :: st) ∧ r = nI m ∧ m < 65536 ∧ BR S T m f)) := by
      intro c hc htc eX eM2
      subst htc
      have hsc : s1 < len ∧ tx s1 = c := y1.dm
      have hse1 : s1 < e1 := y1.2.2.2.2.2.1.2.2.1 (by simp)
      obtain ⟨gx2, gm2, t2, s2, e2, u1, u2, u3, u4, u5, u6⟩ := s_adv y1
      have hsg : F_X7_sign (gi gm1 0 6) gm1 = some (nI c) := by
        rw [y1.sm, m_sign y1.2.1 (by omega)]
        unfold sgn
        rw [if_pos hsc.1, hsc.2]
      have e114 : F_X7_one_114 gm1 = if (gi gm2 0 8) = 4 then F_X7_one_157 (nI c) gm2 else (F_X7_is 45 gm2).bind fun r_15 => if r_15 = 0 then (F_X7_wrong gm2).bind fun g_16 => F_X7_one_157 (nI c) g_16 else F_X7_one_157 (nI c) gm2 := by
        unfold F_X7_one_114
        rw [m_good y1.f0m, Option.bind_some, if_neg (by decide), hsg, Option.bind_some, lt_def, u2, Option.bind_some]
      have e33 : F_X5_readComparison_33 (nI c) gx1 = if (gi gx2 1 5) = 3 then F_X5_readComparison_74 (nI c) (gi gx2 1 7) gx2 else F_X5_readComparison_74 (nI c) (-1) gx2 := by
        unfold F_X5_readComparison_33
        rw [if_pos y1.f0x, u1, Option.bind_some]
      have hE2 := hE1.ow u5 u6
      have c38 : gi gm2 0 38 = nI wb := hE2.1.2.2.2.2
      have c39 : gi gm2 0 39 = nI z := hE2.2.2.1.1
      have c40 : gi gm2 0 40 = nI (P + 1) := hE2.2.1.2.1
      -- a number or none behind it
      have good : ∀ nb, nb ≤ 1000000 → s2 < e2 → F_X5_readComparison_33 (nI c) gx1 = F_X5_readComparison_107 (nI c) (cd 0 nb) gx2 → (∀ g9, F_X7_step 112 (nI (40 * wb + P)) gm2 = some g9 → F_X7_one_114 gm1 = F_X7_one_205 (cd 0 nb) (nI c) g9) → ∃ gx' gm' r, ((F_X5_readComparison gx1).bind fun (r_2, g_3) => some (r_2, g_3)) = some (r, gx') ∧ Ow PMx QT gx gx' ∧ Ow (PEm wb P0 N0 a) QTm gm gm' ∧ (∃ t' s' e' P' N' f m, F_X7_one (nI (10 * wb + w)) gm = some (0, gm') ∧ Sy gx' gm' len tx true t' s' e' ∧ s < s' ∧ z + 2 + np ≤ s' + 1 ∧ EX gx' gm' S b T wb w a P0 N0 P' N' (z + 2) np dp pl (f :: st) ∧ r = nI m ∧ m < 65536 ∧ BR S T m f) := by
        intro nb hnb hse2 eX3 eM3
        have hl2 := u3.2.2.2.2.2.1
        have hz6 : z + 1 < 600 := by omega
        have k1 := m_step (x := 112) (y := nI (40 * wb + P)) c38 c39 hwb (show z < 600 by omega)
        obtain ⟨o1, o2, o3, o4, o5⟩ := gmS_ok gm2 wb z 112 (nI (40 * wb + P))
        have d38 : gi (gmS gm2 wb z 112 (nI (40 * wb + P))) 0 38 = nI wb := by rw [o4 _ _ (by omega) (by omega)]; exact c38
        have k2 := m_step (x := nI c) (y := cd 0 nb) d38 o3 hwb hz6
        obtain ⟨v1, v2, v3, v4, v5⟩ := gmS_ok (gmS gm2 wb z 112 (nI (40 * wb + P))) wb (z + 1) (nI c) (cd 0 nb)
        obtain ⟨gx3, gm3, t3, s3, e3, r1, r2, r3, r4, r5, r6⟩ := s_adv (u3.tg (TgX.rf gx2) (gmS_tg (wb := wb) (z := z) (x := 112) (y := nI (40 * wb + P)))|>.tg (TgX.rf gx2) (gmS_tg (wb := wb) (z := z + 1) (x := nI c) (y := cd 0 nb)))
        have w4 : ∀ a i, ¬ ((a = 21 ∨ a = 22) ∧ (i = 600 * wb + z ∨ i = 600 * wb + (z + 1))) → ¬ (a = 0 ∧ i = 39) → gi (gmS (gmS gm2 wb z 112 (nI (40 * wb + P))) wb (z + 1) (nI c) (cd 0 nb)) a i = gi gm2 a i := fun a i q1 q2 => by rw [v4 _ _ (by omega) q2, o4 _ _ (by omega) q2]
        obtain ⟨⟨f1, f2, f3, f4, f5⟩, ⟨f6, f7, f8, f9, f10, f11, f12⟩, ⟨f13, f14, l, f15, f16⟩, f17, f18, f19⟩ := hE2
        have hE3 : EX gx2 (gmS (gmS gm2 wb z 112 (nI (40 * wb + P))) wb (z + 1) (nI c) (cd 0 nb)) S b T wb w a P0 N0 (P + 1) (N + L) (z + 2) np dp pl ((fun r => cmpS c (algn S p (r + 1) L) nb) :: st) := by
          refine ⟨⟨f1.mm (fun a i p q => w4 a i (by omega) (by omega)) (fun a i => by rw [v5, o5]), by rw [w4 _ _ (by omega) (by omega)]; exact f2, by rw [w4 _ _ (by omega) (by omega)]; exact f3, f4, by rw [w4 _ _ (by omega) (by omega)]; exact f5⟩, ⟨f6, by rw [w4 _ _ (by omega) (by omega)]; exact f7, by rw [w4 _ _ (by omega) (by omega)]; exact f8, f9, f10, f11, f12⟩, ⟨v3, by omega, l ++ [.inl (fun r => cmpS c (algn S p (r + 1) L) nb)], ?_, ?_⟩, by rw [w4 _ _ (by omega) (by omega)]; exact f17, by rw [w4 _ _ (by omega) (by omega)]; exact f18, fun j hj => by rw [w4 _ _ (by omega) (by omega)]; exact f19 j hj⟩
          · refine Pg.app (l' := [.inl (fun r => cmpS c (algn S p (r + 1) L) nb)]) (y := z) ⟨⟨P, N, L, p, c, nb, ⟨by omega, by omega, by omega, by omega, y3⟩, ⟨hc, hnb⟩, ⟨?_, ?_, v1, v2⟩, ⟨?_, ?_, fun i hi => ?_⟩, fun r => rfl⟩, rfl⟩ ?_
            · rw [v4 _ _ (by omega) (by omega)]; exact o1
            · rw [v4 _ _ (by omega) (by omega)]; exact o2
            · rw [w4 _ _ (by omega) (by omega), u6.1 _ _ (fun q => by have := q.1; omega)]; exact y10
            · rw [w4 _ _ (by omega) (by omega), u6.1 _ _ (fun q => by have := q.1; omega)]; exact y11
            · rw [w4 _ _ (by omega) (by omega), u6.1 _ _ (fun q => by have := q.1; omega)]; exact y12 i hi
            · exact Pg.ag (zz := z) (fun i hi => ⟨w4 _ _ (by omega) (by omega), w4 _ _ (by omega) (by omega)⟩) (fun i _ => ⟨w4 _ _ (by omega) (by omega), w4 _ _ (by omega) (by omega)⟩) (fun i _ => w4 _ _ (by omega) (by omega)) (Nat.le_refl _) f9 (Nat.le_refl _) (by omega) (Nat.le_refl _) f15
          · rw [rn_app, f16, Option.bind_some]
            show (st1 st (.inl _)).bind (rn []) = _
            rw [st1, if_pos hst]; rfl
        have hE4 := hE3.ow r5 r6
        have x42 : ∀ i, gi gx3 42 i = gi gx1 42 i := fun i => by rw [r5.1 _ _ (fun q => by have := q.1; omega), u5.1 _ _ (fun q => by have := q.1; omega)]
        have x43 : ∀ i, gi gx3 43 i = gi gx1 43 i := fun i => by rw [r5.1 _ _ (fun q => by have := q.1; omega), u5.1 _ _ (fun q => by have := q.1; omega)]
        have hrows := x_rows hE4.1.1 hT y3 (by rw [x42]; exact y5) (fun i hi => by rw [x43]; exact y6 i hi) hE4.1.2.2.2.1 hc hnb
        refine ⟨gx3, gm3, nI (bs (fun r => decide (sB S r = T) && cmpS c (algn S p (r + 1) L) nb) (sR S)), ?_, (ox1.tr u5.pex).tr r5.pex, ?_, t3, s3, e3, P + 1, N + L, _, bs (fun r => decide (sB S r = T) && cmpS c (algn S p (r + 1) L) nb) (sR S), ?_, r3, by omega, by omega, hE4, rfl, ?_, fun r hr hB => ?_⟩
        · rw [eX, eX3]
          unfold F_X5_readComparison_107
          rw [r1, Option.bind_some, hrows, Option.bind_some]
        · exact (gmS_ow (gmS_ow (om1.tr u6.pem) h14 (by omega)) (by omega) hz6).tr r6.pem
        · rw [eM2, eM3 _ k1]
          unfold F_X7_one_205
          rw [k2, Option.bind_some, r2, Option.bind_some]
        · exact p16 n16.1 (bs_lt _ _)
        · rw [bs_bit]; simp [hr, hB]
      rcases Tk.isNum t2 with ⟨k, rfl⟩ | hnn
      · obtain ⟨m1, m2, m3, m4, m5⟩ := u3.num
        obtain ⟨gx', gm', r, q1, q2, q3, q4⟩ := good (k + 1) (by omega) (u3.2.2.2.2.2.1.2.2.1 (by simp)) (by
          rw [e33, if_pos m1]
          unfold F_X5_readComparison_74
          rw [if_pos m1, m3, cd0S]) (fun g9 hg9 => by
          have hz6 : z < 600 := by have := u3.2.2.2.2.2.1; omega
          have e9 := m_step (x := 112) (y := nI (40 * wb + P)) c38 c39 hwb hz6
          rw [e9] at hg9
          cases hg9
          have h45 : F_X7_is 45 (gmS gm2 wb z 112 (nI (40 * wb + P))) = some 0 := (m_is (u3.tg (TgX.rf gx2) gmS_tg) (d := 45) (by decide)).2 (by simp)
          have h9 : gi (gmS gm2 wb z 112 (nI (40 * wb + P))) 0 9 = nI k := by rw [(gmS_ok gm2 wb z 112 (nI (40 * wb + P))).2.2.2.1 _ _ (by omega) (by omega)]; exact m4
          rw [e114, if_pos m2]
          unfold F_X7_one_157
          rw [m_good u3.f0m, Option.bind_some, if_neg (by decide), c38, c40, l40, nI_add, show (1 : Int32) = nI 1 from rfl, nI_sub (by omega), show 40 * wb + (P + 1) - 1 = 40 * wb + P by omega, e9, Option.bind_some, h45, Option.bind_some, if_pos rfl, h9, cd0S])
        exact ⟨gx', gm', r, q1, q2, q3, Or.inr q4⟩
      · by_cases h45 : t2 = Tk.sgn 45
        · have n45 : gi gx2 1 5 = 45 := by rw [u3.kx]; exact (k_sgn u3.dx (d := 45) (by decide)).mpr h45
          obtain ⟨gx', gm', r, q1, q2, q3, q4⟩ := good 0 (by omega) (u3.2.2.2.2.2.1.2.2.1 (by rw [h45]; simp)) (by
            rw [e33, if_neg (u3.nnum hnn).1]
            unfold F_X5_readComparison_74
            rw [if_neg (u3.nnum hnn).1, if_pos n45, cd0]) (fun g9 hg9 => by
            have hz6 : z < 600 := by have := u3.2.2.2.2.2.1; omega
            have e9 := m_step (x := 112) (y := nI (40 * wb + P)) c38 c39 hwb hz6
            rw [e9] at hg9
            cases hg9
            have h45' : F_X7_is 45 (gmS gm2 wb z 112 (nI (40 * wb + P))) = some 1 := (m_is (u3.tg (TgX.rf gx2) gmS_tg) (d := 45) (by decide)).1 h45
            have h45'' : F_X7_is 45 gm2 = some 1 := (m_is u3 (d := 45) (by decide)).1 h45
            rw [e114, if_neg (u3.nnum hnn).2, h45'', Option.bind_some, if_neg (by decide)]
            unfold F_X7_one_157
            rw [m_good u3.f0m, Option.bind_some, if_neg (by decide), c38, c40, l40, nI_add, show (1 : Int32) = nI 1 from rfl, nI_sub (by omega), show 40 * wb + (P + 1) - 1 = 40 * wb + P by omega, e9, Option.bind_some, h45', Option.bind_some, if_neg (by decide), cd0]
            rfl)
          exact ⟨gx', gm', r, q1, q2, q3, Or.inr q4⟩
        · obtain ⟨gx', gm', j1, j2, j3, j4, j5⟩ := s_wrong u3
          have n45 : ¬ gi gx2 1 5 = 45 := by rw [u3.kx]; exact fun q => h45 ((k_sgn u3.dx (d := 45) (by decide)).mp q)
          have h45'' : F_X7_is 45 gm2 = some 0 := (m_is u3 (d := 45) (by decide)).2 h45
          refine ⟨gx', gm', 0, ?_, (ox1.tr u5.pex).tr j4.pex, (om1.tr u6.pem).tr j5.pem, Or.inl ⟨j3, ?_⟩⟩
          · rw [eX, e33, if_neg (u3.nnum hnn).1]
            unfold F_X5_readComparison_74
            rw [if_neg (u3.nnum hnn).1, if_neg n45, j1, Option.bind_some, Option.bind_some]
          · rw [eM2, e114, if_neg (u3.nnum hnn).2, h45'', Option.bind_some, if_pos rfl, j2, Option.bind_some]
            unfold F_X7_one_157
            rw [j3.bad, Option.bind_some, if_pos rfl]
    have kk : ∀ d, d ∈ SG true → (gi gx1 1 5 = nI d ↔ t1 = Tk.sgn d) := fun d hd => by rw [y1.kx]; exact k_sgn y1.dx hd
    have k60 : gi gx1 1 5 = 60 ↔ t1 = Tk.sgn 60 := kk 60 (by decide)
    have k61 : gi gx1 1 5 = 61 ↔ t1 = Tk.sgn 61 := kk 61 (by decide)
    have k62 : gi gx1 1 5 = 62 ↔ t1 = Tk.sgn 62 := kk 62 (by decide)
    have i60 := m_is y1 (d := 60) (by decide)
    have i61 := m_is y1 (d := 61) (by decide)
    have i62 := m_is y1 (d := 62) (by decide)
    rw [m_good y1.f0m, Option.bind_some, if_neg (by decide)] at eM
    by_cases c60 : t1 = Tk.sgn 60
    · exact key 60 (by omega) c60 (by unfold F_X5_readComparison; rw [lt_def, if_pos (k60.mpr c60), k60.mpr c60]; rfl) (by rw [eM, show F_X7_is 60 gm1 = some 1 from i60.1 c60, Option.bind_some, if_neg (by decide)])
    · rw [show F_X7_is 60 gm1 = some 0 from i60.2 c60, Option.bind_some, if_pos rfl] at eM
      by_cases c62 : t1 = Tk.sgn 62
      · exact key 62 (by omega) c62 (by unfold F_X5_readComparison; rw [lt_def, if_neg (fun q => c60 (k60.mp q)), if_pos (k62.mpr c62), k62.mpr c62]; rfl) (by rw [eM, show F_X7_is 62 gm1 = some 1 from i62.1 c62, Option.bind_some, if_neg (by decide)])
      · rw [show F_X7_is 62 gm1 = some 0 from i62.2 c62, Option.bind_some, if_pos rfl] at eM
        by_cases c61 : t1 = Tk.sgn 61
        · exact key 61 (by omega) c61 (by unfold F_X5_readComparison; rw [lt_def, if_neg (fun q => c60 (k60.mp q)), if_neg (fun q => c62 (k62.mp q)), if_pos (k61.mpr c61), k61.mpr c61]; rfl) (by rw [eM, show F_X7_is 61 gm1 = some 1 from i61.1 c61, Option.bind_some, if_neg (by decide)])
        · obtain ⟨gx', gm', j1, j2, j3, j4, j5⟩ := s_wrong y1
          rw [show F_X7_is 61 gm1 = some 0 from i61.2 c61, Option.bind_some, if_pos rfl, j2, Option.bind_some] at eM
          refine ⟨gx', gm', 0, ?_, ox1.tr j4.pex, om1.tr j5.pem, Or.inl ⟨j3, ?_⟩⟩
          · unfold F_X5_readComparison F_X5_readComparison_33
            rw [lt_def, if_neg (fun q => c60 (k60.mp q)), if_neg (fun q => c62 (k62.mp q)), if_neg (fun q => c61 (k61.mp q)), j1, Option.bind_some, if_neg j3.nx, Option.bind_some]
          · rw [eM]
            unfold F_X7_one_114
            rw [j3.bad, Option.bind_some, if_pos rfl]
end EXPR
