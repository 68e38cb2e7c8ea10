/-! readColumn on both sides -/
theorem gi_same {g : GM} {a k : Nat} {v : Int32} : gi (si g a k v) a k = v := by rw [gi_si, if_pos ⟨rfl, rfl⟩]
theorem gl_same {g : GM} {a k : Nat} {v : Int64} : gl (sl g a k v) a k = v := by rw [gl_sl, if_pos ⟨rfl, rfl⟩]
def gxC (gx : GM) (T c : Nat) (w : Int64) : GM := si (si (sl gx 21 (T * 5 + c) w) 22 (T * 5 + c) (-1)) 19 T (nI (c + 1))
def gmC (gm : GM) (U c : Nat) (v : Int64) : GM := si (si (sl gm 4 (5 * U + c) v) 7 (5 * U + c) (-1)) 5 U (nI (c + 1))
theorem gxC_ok (gx : GM) (T c : Nat) (w : Int64) : gl (gxC gx T c w) 21 (T * 5 + c) = w ∧ gi (gxC gx T c w) 22 (T * 5 + c) = -1 ∧ gi (gxC gx T c w) 19 T = nI (c + 1) ∧ (∀ a i, ¬ (a = 22 ∧ i = T * 5 + c) → ¬ (a = 19 ∧ i = T) → gi (gxC gx T c w) a i = gi gx a i) ∧ (∀ a i, ¬ (a = 21 ∧ i = T * 5 + c) → gl (gxC gx T c w) a i = gl gx a i) := by
  unfold gxC
  refine ⟨?_, ?_, ?_, fun a i h1 h2 => ?_, fun a i h1 => ?_⟩
  · rw [gl_si, gl_si, gl_sl, if_pos ⟨rfl, rfl⟩]
  · rw [gi_si, if_neg (by omega), gi_si, if_pos ⟨rfl, rfl⟩]
  · rw [gi_si, if_pos ⟨rfl, rfl⟩]
  · rw [gi_si, if_neg h2, gi_si, if_neg h1, gi_sl]
  · rw [gl_si, gl_si, gl_sl, if_neg h1]
theorem gmC_ok (gm : GM) (U c : Nat) (v : Int64) : gl (gmC gm U c v) 4 (5 * U + c) = v ∧ gi (gmC gm U c v) 7 (5 * U + c) = -1 ∧ gi (gmC gm U c v) 5 U = nI (c + 1) ∧ (∀ a i, ¬ (a = 7 ∧ i = 5 * U + c) → ¬ (a = 5 ∧ i = U) → gi (gmC gm U c v) a i = gi gm a i) ∧ (∀ a i, ¬ (a = 4 ∧ i = 5 * U + c) → gl (gmC gm U c v) a i = gl gm a i) := by
  unfold gmC
  refine ⟨?_, ?_, ?_, fun a i h1 h2 => ?_, fun a i h1 => ?_⟩
  · rw [gl_si, gl_si, gl_sl, if_pos ⟨rfl, rfl⟩]
  · rw [gi_si, if_neg (by omega), gi_si, if_pos ⟨rfl, rfl⟩]
  · rw [gi_si, if_pos ⟨rfl, rfl⟩]
  · rw [gi_si, if_neg h2, gi_si, if_neg h1, gi_sl]
  · rw [gl_si, gl_si, gl_sl, if_neg h1]
section RCOL
variable {gx gm : GM} {len : Nat} {tx : Nat → Nat} {t : Tk} {s e b T : Nat} {S : St}
/-- takeTable of the class beside the reference's own reading of a table's name -/
theorem s_tabP (hS : Sy gx gm len tx false t s e) (hR : RT 17 b gx gm S) :
    (∃ wd v k, t = Tk.nam wd v ∧ k < sT S ∧ ff (fun t => decide (gl gm 3 (5 * b + t) = v)) (sT S) 0 = k + 1 ∧ F_X2_tableNamed_p wd gx = some (nI k) ∧ F_X7_tableOf (nI b) v gm = some (nI (5 * b + k)) ∧ F_X4_takeTable_p gx = (F_X4_advance gx).bind fun g_1 => some (nI k, g_1)) ∨
    (∃ wd v gx' gm', t = Tk.nam wd v ∧ F_X7_tableOf (nI b) v gm = some (-1) ∧ F_X4_takeTable_p gx = some (-1, gx') ∧ F_X7_fails 4 (nI s) gm = some gm' ∧ Fa gx' gm' ∧ Ow PT QT gx gx' ∧ Ow PTm QTm gm gm') ∨
    ((∀ wd v, ¬ t = Tk.nam wd v) ∧ ∃ gx' gm', F_X4_takeTable_p gx = some (-1, gx') ∧ F_X7_wrong gm = some gm' ∧ Fa gx' gm' ∧ Ow PT QT gx gx' ∧ Ow PTm QTm gm gm') := by
  rcases Tk.isNam t with ⟨wd, v, rfl⟩ | hn
  · obtain ⟨n1, n2, n3, n4, n5⟩ := hS.nam
    have e1 := x_tableNamed_p hR.2.1 hR.2.2.1 wd
    have e2 := m_tableOf hR.1 hR.2.1 hR.2.2.2.1 v
    rw [show (fun t => decide (gl gx 18 t = wd)) = (fun t => decide (gl gx (17 + 1) t = wd)) from rfl, p_table hR n5] at e1
    have hle := ff_le (fun t => decide (gl gm 3 (5 * b + t) = v)) (sT S)
    have h5 := hR.2.1
    have hb := hR.1
    rcases hk : ff (fun t => decide (gl gm 3 (5 * b + t) = v)) (sT S) 0 with _ | k
    · right; left
      obtain ⟨gx', gm', h1, h2, h3, h4, h6⟩ := s_fail hS (k := 4) (p := s) (by decide) (by decide)
      refine ⟨wd, v, gx', gm', rfl, ?_, ?_, h2, h3, h4, h6⟩
      · rw [e2, hk]; rfl
      · unfold F_X4_takeTable_p F_X4_takeTable_p_12 F_X4_takeTable_p_35
        have h1' : F_X4_refuse 4 (nI s) gx = some gx' := h1
        rw [if_pos n1, n3, e1, hk, Option.bind_some, lt_def, cd0, if_pos rfl, hS.sx, h1', Option.bind_some, if_neg h3.nx]
    · left
      refine ⟨wd, v, k, rfl, by omega, hk, ?_, ?_, ?_⟩
      · rw [e1, hk, cdS, Nat.zero_add]
      · rw [e2, hk, cdS]
      · unfold F_X4_takeTable_p F_X4_takeTable_p_12 F_X4_takeTable_p_35
        rw [if_pos n1, n3, e1, hk, Option.bind_some, lt_def, cdS, Nat.zero_add, if_neg (nI_ne1 (by omega)), if_pos hS.f0x]
  · right; right
    obtain ⟨gx', gm', h1, h2, h3, h4, h6⟩ := s_wrong hS
    refine ⟨hn, gx', gm', ?_, h2, h3, h4, h6⟩
    have e0 := h4.agX (B := 17) (by decide)
    have e1 : ∀ w, F_X2_tableNamed_p w gx' = some (cd 0 (ff (fun t => decide (gl gx' 18 t = w)) (sT S) 0)) := fun w => x_tableNamed_p hR.2.1 (by rw [(e0 _ _ (by decide) (by decide)).1]; exact hR.2.2.1) w
    unfold F_X4_takeTable_p F_X4_takeTable_p_12 F_X4_takeTable_p_35
    rw [if_neg (hS.nnam hn).1, h1, Option.bind_some, e1, Option.bind_some, lt_def, h3.refuse, Option.bind_some, if_neg h3.nx]
    split <;> rfl
theorem s_readColumn (hS : Sy gx gm len tx false t s e) (hA : RA b gx gm S) (hrb : gi gm 0 24 = nI b) (hT : T < sT S) (hno : ∀ r, r < sR S → ¬ sB S r = T) :
    ∃ gx' gm', F_X3_readColumn (nI T) gx = some gx' ∧ F_X7_readColumn (nI (5 * b + T)) gm = some gm' ∧ Ow PSx QSx gx gx' ∧ Ow (PSm b) (QSm b) gm gm' ∧ ((∃ t' s' e' l, Sy gx' gm' len tx false t' s' e' ∧ sC S T < 5 ∧ RA b gx' gm' (sAddC S T l)) ∨ Fa gx' gm') := by
  have hb := hA.1.1
  have h5 := hA.1.2.1
  obtain ⟨a1, a2, a3, a4, a5, a6, a7, a8⟩ := hA.1.2.2.2.2 T hT
  have badM : ∀ {gx' gm' : GM}, Fa gx' gm' → F_X7_readColumn_22 (nI (5 * b + T)) gm' = some gm' := by
    intro gx' gm' hF
    unfold F_X7_readColumn_22 F_X7_readColumn_50
    rw [hF.bad, Option.bind_some, if_pos rfl, Option.bind_some, if_pos rfl]
  rcases Tk.isNam t with ⟨wd, v, rfl⟩ | hn
  · obtain ⟨n1, n2, n3, n4, n5⟩ := hS.nam
    by_cases hc : sC S T < 5
    · have e1 := x_columnNamed_p hA.1.2.1 hA.1.2.2.1 hT a4 a1 wd
      have e2 := m_columnOf (T := 5 * b + T) (by omega) a1 a5 v
      rw [show (fun c => decide (gl gx 21 (T * 5 + c) = wd)) = (fun c => decide (gl gx (17 + 4) (T * 5 + c) = wd)) from rfl, p_column hA.1 hT n5] at e1
      have hle := ff_le (fun c => decide (gl gm 4 (5 * (5 * b + T) + c) = v)) (sC S T)
      rcases hk : ff (fun c => decide (gl gm 4 (5 * (5 * b + T) + c) = v)) (sC S T) 0 with _ | k
      · rw [hk, cd0] at e1 e2
        obtain ⟨X1, X2, X3, X4, X5⟩ := gxC_ok gx T (sC S T) wd
        obtain ⟨Y1, Y2, Y3, Y4, Y5⟩ := gmC_ok gm (5 * b + T) (sC S T) v
        have hx0 : Ow PSx QSx gx (gxC gx T (sC S T) wd) := (((Ow.rf gx).sl (Or.inr ⟨by decide, by decide⟩)).si (Or.inr ⟨by decide, by decide⟩)).si (Or.inr ⟨by decide, by decide⟩)
        have hm0 : Ow (PSm b) (QSm b) gm (gmC gm (5 * b + T) (sC S T) v) := (((Ow.rf gm).sl (Or.inr (by unfold BKm; omega))).si (Or.inr (by unfold BKm; omega))).si (Or.inr (by unfold BKm; omega))
        have tgx : TgX gx (gxC gx T (sC S T) wd) := (((TgX.rf gx).sl (by decide) (by decide)).si (by decide) (by decide)).si (by decide) (by decide)
        have tgm : TgM gm (gmC gm (5 * b + T) (sC S T) v) := (((TgM.rf gm).sl (by decide)).si (Or.inl (by decide)) (by decide)).si (Or.inl (by decide)) (by decide)
        have eX : F_X3_readColumn (nI T) gx = (F_X4_advance (gxC gx T (sC S T) wd)).bind fun g_9 => if (gi g_9 1 5) = 6 then (F_X4_advance g_9).bind fun g_10 => (F_X4_takeTable_p g_10).bind fun q => some (si q.2 22 (T * 5 + sC S T) q.1) else some g_9 := by
          unfold F_X3_readColumn
          have c1 : gi (si (sl gx 21 (T * 5 + sC S T) wd) 22 (T * 5 + sC S T) (-1)) 19 T = nI (sC S T) := by rw [gi_si, if_neg (by omega), gi_sl]; exact a4
          rw [ck_true (inB_nI (by omega) (by decide)), nI_clamp (by omega), show gi gx 19 T = nI (sC S T) from a4, lt_def, if_pos n1, if_pos (show nI (sC S T) < 5 from nI_lt hc (by decide)), n3, e1, Option.bind_some, if_pos rfl, x_slot, Option.bind_some, ck_true (inB_nI (by omega) (by decide)), nI_clamp (by omega), lt_def, Option.bind_some, ck_true (inB_nI (by omega) (by decide)), nI_clamp (by omega), lt_def, ck_true (inB_nI (by omega) (by decide)), ck_true (inB_nI (by omega) (by decide)), lt_def, c1, nI_1]
          simp only [Option.bind_some, ck_true (inB_nI (show T * 5 + sC S T < 25 by omega) (by decide)), lt_def, nI_clamp (show T * 5 + sC S T < 2 ^ 31 by omega)]
          rfl
        have eM : F_X7_readColumn (nI (5 * b + T)) gm = (F_X7_next (gmC gm (5 * b + T) (sC S T) v)).bind fun g_12 => (F_X7_isWord 29807 g_12).bind fun r_13 => if r_13 = 0 then some g_12 else (F_X7_next g_12).bind fun g_14 => if (gi g_14 0 8) = 2 then F_X7_readColumn_127 (nI (5 * (5 * b + T) + sC S T)) g_14 else (F_X7_wrong g_14).bind fun g_15 => F_X7_readColumn_127 (nI (5 * (5 * b + T) + sC S T)) g_15 := by
          have c1 : gi (si (sl gm 4 (5 * (5 * b + T) + sC S T) v) 7 (5 * (5 * b + T) + sC S T) (-1)) 5 (5 * b + T) = nI (sC S T) := by rw [gi_si, if_neg (by omega), gi_sl]; exact a5
          unfold F_X7_readColumn F_X7_readColumn_22
          rw [if_pos n2, ck_true (inB_nI (by omega) (by decide)), nI_clamp (by omega), a5, if_neg (fun q => by have := (nI_eq (b := 5) (by omega) (by decide)).mp q; omega), m_good hS.f0m, Option.bind_some, if_neg (by decide), n4, e2, Option.bind_some, if_pos (by decide)]
          unfold F_X7_readColumn_50
          rw [m_good hS.f0m, Option.bind_some, if_neg (by decide), ck_true (inB_nI (by omega) (by decide)), nI_clamp (by omega), a5, l5, nI_add, lt_def, ck_true (inB_nI (by omega) (by decide)), nI_clamp (by omega), n4, lt_def, ck_true (inB_nI (by omega) (by decide)), lt_def, ck_true (inB_nI (by omega) (by decide)), ck_true (inB_nI (by omega) (by decide)), lt_def, c1, nI_1]
          rfl
        rw [eX, eM]
        obtain ⟨gx4, gm4, t4, s4, e4, p1, p2, p3, p4, p5, p6⟩ := s_adv (hS.tg tgx tgm)
        have ax4 := p5.agX (B := 17) (by decide)
        have am4 := p6.agM (b := b)
        rw [p1, p2, Option.bind_some, Option.bind_some]
        by_cases c2 : t4 = Tk.wrd 2
        · obtain ⟨gx5, gm5, t5, s5, e5, u1, u2, u3, u4, u5, u6⟩ := s_adv p3
          have ax5 := ax4.tr (u5.agX (B := 17) (by decide))
          have am5 := am4.tr (u6.agM (b := b))
          have w1 : F_X7_isWord 29807 gm4 = some 1 := (m_isWord p3 (j := 2) (by decide)).1 c2
          have w2 : gi gx4 1 5 = 6 := by rw [p3.kx]; exact (k_wrd p3.dx (j := 2) (by decide)).mpr c2
          rw [w1, Option.bind_some, if_pos w2, if_neg (show ¬ (1 : Int32) = 0 by decide), u1, u2, Option.bind_some, Option.bind_some]
          have r24 : gi gm5 0 24 = nI b := by rw [u6.1 _ _ (fun q => by have := q.2; omega), p6.1 _ _ (fun q => by have := q.2; omega), Y4 _ _ (by omega) (by omega)]; exact hrb
          have hR5 : RT 17 b gx5 gm5 (sAddC S T 0) := (addC hA hT hc (Nat.zero_le _) hno n5 X1 X2 X3 (fun a i q1 q2 _ _ => X4 a i q1 q2) (fun a i q1 _ _ => X5 a i q1) Y1 Y2 Y3 (fun a i q1 q2 _ _ => Y4 a i q1 q2) (fun a i q1 _ _ => Y5 a i q1)).1.ag ax5 am5
          have hxT : Ow PSx QSx gx gx5 := (hx0.tr p5.psx).tr u5.psx
          have hmT : Ow (PSm b) (QSm b) gm gm5 := (hm0.tr p6.psm).tr u6.psm
          rcases s_tabP u3 hR5 with ⟨wd', v', k', z1, z2, z3, z4, z5, z6⟩ | ⟨wd', v', gx6, gm6, z1, z2, z3, z4, z5, z6, z7⟩ | ⟨z0, gx6, gm6, z1, z2, z3, z4, z5⟩
          · subst z1
            obtain ⟨m1, m2, m3, m4, m5⟩ := u3.nam
            have tgm6 : TgM gm5 (si gm5 7 (5 * (5 * b + T) + sC S T) (nI (5 * b + k'))) := (TgM.rf gm5).si (Or.inl (by decide)) (by decide)
            have hS6 := u3.tg (TgX.rf gx5) tgm6
            obtain ⟨gx6, gm6, t6, s6, e6, v1, v2, v3, v4, v5, v6⟩ := s_adv hS6
            have ax6 := ax5.tr (v5.agX (B := 17) (by decide))
            have z2' : k' < sT S := z2
            refine ⟨si gx6 22 (T * 5 + sC S T) (nI k'), gm6, ?_, ?_, ?_, ?_, Or.inl ⟨t6, s6, e6, k' + 1, v3.tg ((TgX.rf _).si (by decide) (by decide)) (TgM.rf _), hc, ?_⟩⟩
            · rw [z6, v1, Option.bind_some, Option.bind_some]
            · rw [if_pos m2]
              unfold F_X7_readColumn_127 F_X7_readColumn_171
              rw [m_good u3.f0m, Option.bind_some, if_neg (by decide), r24, m4, z5, Option.bind_some, ck_true (inB_nI (by omega) (by decide)), nI_clamp (by omega), lt_def, ck_true (inB_nI (by omega) (by decide)), gi_same, if_pos (nI_pos' (by omega)), m_good hS6.f0m, Option.bind_some, if_neg (by decide), v2, Option.bind_some]
            · exact ((hxT.tr v5.psx).si (Or.inr ⟨by decide, by decide⟩))
            · exact (hmT.si (Or.inr (by unfold BKm; omega))).tr v6.psm
            · refine addC hA hT hc (by omega) hno n5 ?_ ?_ ?_ (fun a i q1 q2 q3 q4 => ?_) (fun a i q1 q3 q4 => ?_) ?_ ?_ ?_ (fun a i q1 q2 q3 q4 => ?_) (fun a i q1 q3 q4 => ?_)
              · rw [gl_si, (ax6 _ _ (by decide) (by decide)).2]; exact X1
              · rw [gi_si, if_pos ⟨rfl, rfl⟩, cdS, Nat.zero_add]
              · rw [gi_si, if_neg (by omega), (ax6 _ _ (by decide) (by decide)).1]; exact X3
              · rw [gi_si, if_neg q1, (ax6 _ _ q3 q4).1]; exact X4 a i q1 q2
              · rw [gl_si, (ax6 _ _ q3 q4).2]; exact X5 a i q1
              · rw [v6.2 _ _ (fun q => by have := q.1; omega), gl_si, u6.2 _ _ (fun q => by have := q.1; omega), p6.2 _ _ (fun q => by have := q.1; omega)]; exact Y1
              · rw [v6.1 _ _ (fun q => by have := q.1; omega), gi_si, if_pos ⟨rfl, rfl⟩, cdS]
              · rw [v6.1 _ _ (fun q => by have := q.1; omega), gi_si, if_neg (by omega), u6.1 _ _ (fun q => by have := q.1; omega), p6.1 _ _ (fun q => by have := q.1; omega)]; exact Y3
              · rw [v6.1 _ _ (fun q => by have := q.1; omega), gi_si, if_neg q1, u6.1 _ _ (fun q => by have := q.1; omega), p6.1 _ _ (fun q => by have := q.1; omega)]; exact Y4 a i q1 q2
              · rw [v6.2 _ _ (fun q => by have := q.1; omega), gl_si, u6.2 _ _ (fun q => by have := q.1; omega), p6.2 _ _ (fun q => by have := q.1; omega)]; exact Y5 a i q1
          · subst z1
            obtain ⟨m1, m2, m3, m4, m5⟩ := u3.nam
            have tgm6 : TgM gm5 (si gm5 7 (5 * (5 * b + T) + sC S T) (-1)) := (TgM.rf gm5).si (Or.inl (by decide)) (by decide)
            have hS6 := u3.tg (TgX.rf gx5) tgm6
            obtain ⟨gx7, gm7, f1, f2, f3, f4, f5⟩ := s_fail hS6 (k := 4) (p := s5) (by decide) (by decide)
            have f0 : F_X7_fails 4 (nI s5) (si gm5 7 (5 * (5 * b + T) + sC S T) (-1)) = some gm7 := f2
            have hnx := z5
            refine ⟨si gx6 22 (T * 5 + sC S T) (-1), gm7, ?_, ?_, ?_, ?_, Or.inr ?_⟩
            · rw [z3, Option.bind_some]
            · rw [if_pos m2]
              unfold F_X7_readColumn_127 F_X7_readColumn_171
              rw [m_good u3.f0m, Option.bind_some, if_neg (by decide), r24, m4, z2, Option.bind_some, ck_true (inB_nI (by omega) (by decide)), nI_clamp (by omega), lt_def, ck_true (inB_nI (by omega) (by decide)), gi_same, if_neg (show ¬ (0 : Int32) ≤ -1 by decide), hS6.sm, f0, Option.bind_some, f3.bad, Option.bind_some, if_pos rfl]
            · exact (hxT.tr z6.psx).si (Or.inr ⟨by decide, by decide⟩)
            · exact (hmT.si (Or.inr (by unfold BKm; omega))).tr f5.psm
            · have fm : gm7 = si (si (si gm5 7 (5 * (5 * b + T) + sC S T) (-1)) 0 4 4) 0 5 (nI s5) := by
                unfold F_X7_fails at f0
                rw [if_pos (by rw [hS6.f0m]; decide), lt_def, lt_def] at f0
                exact (Option.some.inj f0).symm
              have fm' : gm6 = si (si gm5 0 4 4) 0 5 (nI s5) := by
                unfold F_X7_fails at z4
                rw [if_pos (by rw [u3.f0m]; decide), lt_def, lt_def] at z4
                exact (Option.some.inj z4).symm
              refine z5.tg ((TgX.rf _).si (by decide) (by decide)) (fun j => ?_)
              rw [fm, fm']
              refine ⟨fun _ _ => ?_, ?_, rfl⟩
              · rw [gi_si, gi_si, gi_si, gi_si, gi_si]
                split
                · rfl
                · split
                  · rfl
                  · rw [if_neg (by omega)]
              · rw [gi_si, if_neg (by omega), gi_si, if_neg (by omega), gi_si, if_neg (by omega), gi_si, if_neg (by omega), gi_si, if_neg (by omega)]
          · refine ⟨si gx6 22 (T * 5 + sC S T) (-1), gm6, ?_, ?_, ?_, ?_, Or.inr (z3.tg ((TgX.rf _).si (by decide) (by decide)) (TgM.rf _))⟩
            · rw [z1, Option.bind_some]
            · rw [if_neg (u3.nnam z0).2, z2, Option.bind_some]
              unfold F_X7_readColumn_127
              rw [z3.bad, Option.bind_some, if_pos rfl]
            · exact (hxT.tr z4.psx).si (Or.inr ⟨by decide, by decide⟩)
            · exact hmT.tr z5.psm
        · have w1 : F_X7_isWord 29807 gm4 = some 0 := (m_isWord p3 (j := 2) (by decide)).2 c2
          have w2 : ¬ gi gx4 1 5 = 6 := by rw [p3.kx]; exact fun q => c2 ((k_wrd p3.dx (j := 2) (by decide)).mp q)
          rw [w1, Option.bind_some, if_neg w2, if_pos (show (0 : Int32) = 0 from rfl)]
          refine ⟨gx4, gm4, rfl, rfl, hx0.tr p5.psx, hm0.tr p6.psm, Or.inl ⟨t4, s4, e4, 0, p3, hc, ?_⟩⟩
          exact (addC hA hT hc (Nat.zero_le _) hno n5 X1 X2 X3 (fun a i q1 q2 _ _ => X4 a i q1 q2) (fun a i q1 _ _ => X5 a i q1) Y1 Y2 Y3 (fun a i q1 q2 _ _ => Y4 a i q1 q2) (fun a i q1 _ _ => Y5 a i q1)).ag ax4 am4
      · rw [hk, cdS] at e1 e2
        obtain ⟨gx', gm', h1, h2, h3, h4, h6⟩ := s_fail hS (k := 3) (p := s) (by decide) (by decide)
        have h1' : F_X4_refuse 3 (nI s) gx = some gx' := h1
        have h2' : F_X7_fails 3 (nI s) gm = some gm' := h2
        refine ⟨gx', gm', ?_, ?_, h4.psx, h6.psm, Or.inr h3⟩
        · unfold F_X3_readColumn
          rw [ck_true (inB_nI (by omega) (by decide)), nI_clamp (by omega), show gi gx 19 T = nI (sC S T) from a4, lt_def, if_pos n1, if_pos (show nI (sC S T) < 5 from nI_lt hc (by decide)), n3, e1, Option.bind_some, if_neg (nI_ne1 (by omega)), hS.sx, h1', Option.bind_some]
        · unfold F_X7_readColumn F_X7_readColumn_22
          rw [if_pos n2, ck_true (inB_nI (by omega) (by decide)), nI_clamp (by omega), a5, if_neg (fun q => by have := (nI_eq (b := 5) (by omega) (by decide)).mp q; omega), m_good hS.f0m, Option.bind_some, if_neg (by decide), n4, e2, Option.bind_some, if_neg (nI_pos (by omega)), hS.sm, h2', Option.bind_some]
          unfold F_X7_readColumn_50
          rw [h3.bad, Option.bind_some, if_pos rfl]
    · have hc5 : sC S T = 5 := by omega
      obtain ⟨gx', gm', h1, h2, h3, h4, h6⟩ := s_wrong hS
      refine ⟨gx', gm', ?_, ?_, h4.psx, h6.psm, Or.inr h3⟩
      · unfold F_X3_readColumn F_X3_readColumn_26
        rw [ck_true (inB_nI (by omega) (by decide)), nI_clamp (by omega), show gi gx 19 T = nI (sC S T) from a4, lt_def, if_pos n1, hc5, if_neg (by decide), h1, Option.bind_some]
      · unfold F_X7_readColumn F_X7_readColumn_18
        rw [if_pos n2, ck_true (inB_nI (by omega) (by decide)), nI_clamp (by omega), a5, hc5, if_pos (show nI 5 = 5 from rfl), h2, Option.bind_some, badM h3]
  · obtain ⟨gx', gm', h1, h2, h3, h4, h6⟩ := s_wrong hS
    obtain ⟨n1, n2⟩ := hS.nnam hn
    refine ⟨gx', gm', ?_, ?_, h4.psx, h6.psm, Or.inr h3⟩
    · unfold F_X3_readColumn F_X3_readColumn_26
      rw [ck_true (inB_nI (by omega) (by decide)), nI_clamp (by omega), lt_def, if_neg n1, h1, Option.bind_some]
    · unfold F_X7_readColumn F_X7_readColumn_18
      rw [if_neg n2, h2, Option.bind_some, badM h3]
end RCOL
