/-! a table's name, a number: in wishes -/
section NEED
variable {gx gm : GM} {len : Nat} {tx : Nat → Nat} {w : Bool} {t : Tk} {s e b : Nat} {S : St}
theorem Fa.adv (h : Fa gx gm) : ∃ gx', F_X4_advance gx = some gx' ∧ Fa gx' gm ∧ Ow PT QT gx gx' := by
  obtain ⟨⟨k, p, h1, h2, h3, h4, h5, h6⟩, len, tx, w, h7, h8, q, h9⟩ := h
  obtain ⟨g', p', a1, a2, a3⟩ := x_adv h9
  exact ⟨g', a1, ⟨⟨k, p, h1, h2, by rw [a2.1 _ _ (by omega)]; exact h3, h4, by rw [a2.1 _ _ (by omega)]; exact h5, h6⟩, len, tx, w, h7, h8, p', a3⟩, a2.ow⟩
theorem SS.ow (h : SS 6 b gx gm S) {gx' gm' : GM} (hx : Ow PT QT gx gx') (hm : Ow PTm QTm gm gm') : SS 6 b gx' gm' S := h.mv (fun a i ha => ⟨hx.1 _ _ (fun q => by have := q.1; omega), hx.2 _ _ (fun q => by have := q.1; omega)⟩) hm.agM
theorem x_tabS (h : SS 6 b gx gm S) (wd : Int64) : F_X2_tableNamed_s wd gx = some (cd 0 (ff (fun t => decide (gl gx 7 t = wd)) (sT S) 0)) := x_tableNamed_s h.1.2.1 h.1.2.2.1 wd
theorem f_tabS (hF : Fa gx gm) (h : SS 6 b gx gm S) : F_X4_takeTable_s gx = some (-1, gx) ∧ F_X7_aTable gm = some (-1, gm) := by
  refine ⟨?_, ?_⟩
  · unfold F_X4_takeTable_s F_X4_takeTable_s_12 F_X4_takeTable_s_35
    rw [hF.refuseT, Option.bind_some, x_tabS h, Option.bind_some, lt_def, hF.refuse, Option.bind_some, if_neg hF.nx]
    split <;> split <;> rfl
  · unfold F_X7_aTable F_X7_aTable_19 F_X7_aTable_42 F_X7_aTable_63
    rw [hF.bad, Option.bind_some, if_pos rfl, Option.bind_some, if_pos rfl, Option.bind_some, if_pos rfl, Option.bind_some, if_pos rfl]
theorem s_tabS (hS : Sy gx gm len tx w t s e) (h : SS 6 b gx gm S) (h23 : gi gm 0 23 = nI b) :
    ∃ gx' gm', ((∃ k, k < sT S ∧ F_X4_takeTable_s gx = some (nI k, gx') ∧ F_X7_aTable gm = some (nI (5 * b + k), gm') ∧ ∃ t' s' e', Sy gx' gm' len tx w t' s' e' ∧ e ≤ s' ∧ s < e) ∨ (F_X4_takeTable_s gx = some (-1, gx') ∧ F_X7_aTable gm = some (-1, gm') ∧ Fa gx' gm')) ∧ Ow PT QT gx gx' ∧ Ow PTm QTm gm gm' := by
  obtain ⟨n1, n2, n3, n4, n5⟩ := h.r16
  rcases Tk.isNam t with ⟨wd, v, rfl⟩ | hn
  · obtain ⟨m1, m2, m3, m4, m5⟩ := hS.nam
    have e1 := x_tabS h wd
    have e2 := m_tableOf h.1.1 h.1.2.1 h.1.2.2.2.1 v
    rw [show (fun t => decide (gl gx 7 t = wd)) = (fun t => decide (gl gx (6 + 1) t = wd)) from rfl, p_table h.1 m5] at e1
    have hle := ff_le (fun t => decide (gl gm 3 (5 * b + t) = v)) (sT S)
    rcases hk : ff (fun t => decide (gl gm 3 (5 * b + t) = v)) (sT S) 0 with _ | k
    · obtain ⟨gx', gm', h1, h2, h3, h4, h6⟩ := s_fail hS (k := 4) (p := s) (by decide) (by decide)
      have h1' : F_X4_refuse 4 (nI s) gx = some gx' := h1
      have h2' : F_X7_fails 4 (nI s) gm = some gm' := h2
      refine ⟨gx', gm', Or.inr ⟨?_, ?_, h3⟩, h4, h6⟩
      · unfold F_X4_takeTable_s F_X4_takeTable_s_12 F_X4_takeTable_s_35
        rw [if_pos m1, m3, e1, hk, Option.bind_some, lt_def, cd0, if_pos rfl, hS.sx, h1', Option.bind_some, if_neg h3.nx]
      · unfold F_X7_aTable F_X7_aTable_19 F_X7_aTable_42 F_X7_aTable_63
        rw [m_good hS.f0m, Option.bind_some, if_neg (by decide), if_pos m2, Option.bind_some, if_neg (by decide), h23, m4, e2, hk, Option.bind_some, Option.bind_some, if_neg (by decide), cd0, if_neg (by decide), hS.sm, h2', Option.bind_some, h3.bad, Option.bind_some, if_pos rfl]
    · obtain ⟨gx', gm', t', s', e', h1, h2, h3, h4, h5, h6⟩ := s_adv hS
      refine ⟨gx', gm', Or.inl ⟨k, by omega, ?_, ?_, t', s', e', h3, h4, hS.2.2.2.2.2.1.2.2.1 (by simp)⟩, h5, h6⟩
      · unfold F_X4_takeTable_s F_X4_takeTable_s_12 F_X4_takeTable_s_35
        rw [if_pos m1, m3, e1, hk, Option.bind_some, lt_def, cd0S, if_neg (nI_ne1 (by omega)), if_pos hS.f0x, h1, Option.bind_some]
      · unfold F_X7_aTable F_X7_aTable_19 F_X7_aTable_42 F_X7_aTable_63
        rw [m_good hS.f0m, Option.bind_some, if_neg (by decide), if_pos m2, Option.bind_some, if_neg (by decide), h23, m4, e2, hk, Option.bind_some, Option.bind_some, if_neg (by decide), cdS, if_pos (nI_pos' (by omega)), Option.bind_some, if_neg (by decide), h2, Option.bind_some]
  · obtain ⟨gx', gm', h1, h2, h3, h4, h6⟩ := s_wrong hS
    refine ⟨gx', gm', Or.inr ⟨?_, ?_, h3⟩, h4, h6⟩
    · unfold F_X4_takeTable_s F_X4_takeTable_s_12 F_X4_takeTable_s_35
      rw [if_neg (hS.nnam hn).1, h1, Option.bind_some, x_tabS (h.ow h4 h6), Option.bind_some, lt_def, h3.refuse, Option.bind_some, if_neg h3.nx]
      split <;> rfl
    · have := (f_tabS h3 (h.ow h4 h6)).2
      unfold F_X7_aTable
      rw [m_good hS.f0m, Option.bind_some, if_neg (by decide), if_neg (hS.nnam hn).2, h2, Option.bind_some]
      unfold F_X7_aTable at this
      rw [h3.bad, Option.bind_some, if_pos rfl] at this
      exact this
theorem f_need (hF : Fa gx gm) : F_X5_readNeed gx = some (0, gx) ∧ F_X7_howMany gm = some (gi gm 0 9, gm) := by
  refine ⟨?_, ?_⟩
  · unfold F_X5_readNeed F_X5_readNeed_30 F_X5_readNeed_46
    rw [lt_def, hF.refuse, Option.bind_some, hF.take, Option.bind_some]
    dsimp only
    rw [if_pos rfl]
    split
    · split
      · rfl
      · split <;> rfl
    · rfl
  · unfold F_X7_howMany F_X7_howMany_19 F_X7_howMany_53
    rw [hF.bad, Option.bind_some, if_pos rfl, Option.bind_some, if_pos rfl, lt_def, Option.bind_some, if_pos rfl]
theorem s_need (hS : Sy gx gm len tx w t s e) :
    ∃ gx' gm', ((∃ k, 1 ≤ k ∧ k ≤ 16 ∧ F_X5_readNeed gx = some (nI k, gx') ∧ F_X7_howMany gm = some (nI k, gm') ∧ ∃ t' s' e', Sy gx' gm' len tx w t' s' e' ∧ e ≤ s' ∧ s < e) ∨ ((∃ v, F_X5_readNeed gx = some (0, gx') ∧ F_X7_howMany gm = some (v, gm')) ∧ Fa gx' gm')) ∧ Ow PT QT gx gx' ∧ Ow PTm QTm gm gm' := by
  rcases Tk.isNum t with ⟨k, rfl⟩ | hn
  · obtain ⟨m1, m2, m3, m4, m5⟩ := hS.num
    have c1 : nI k < 1 ↔ k < 1 := nI_ltI (b := 1) (by omega) (by decide)
    have c2 : nI k ≤ 16 ↔ k ≤ 16 := nI_leI (b := 16) (by omega) (by decide)
    by_cases hk : 1 ≤ k ∧ k ≤ 16
    · obtain ⟨gx', gm', t', s', e', h1, h2, h3, h4, h5, h6⟩ := s_adv hS
      refine ⟨gx', gm', Or.inl ⟨k, hk.1, hk.2, ?_, ?_, t', s', e', h3, h4, hS.2.2.2.2.2.1.2.2.1 (by simp)⟩, h5, h6⟩
      · unfold F_X5_readNeed F_X5_readNeed_46 F_X4_take
        rw [lt_def, m3, if_pos m1, if_neg (fun q => by have := c1.mp q; omega), if_pos (c2.mpr hk.2), if_pos hS.f0x, if_pos m1, h1, Option.bind_some, Option.bind_some]
        rfl
      · unfold F_X7_howMany F_X7_howMany_19 F_X7_howMany_53
        rw [m_good hS.f0m, Option.bind_some, if_neg (by decide), if_pos m2, Option.bind_some, if_neg (by decide), m4, if_neg (fun q => by have := c1.mp q; omega), if_pos (c2.mpr hk.2), lt_def, Option.bind_some, if_neg (by decide), h2, Option.bind_some]
    · obtain ⟨gx', gm', h1, h2, h3, h4, h6⟩ := s_fail hS (k := 6) (p := s) (by decide) (by decide)
      have h1' : F_X4_refuse 6 (nI s) gx = some gx' := h1
      have h2' : F_X7_fails 6 (nI s) gm = some gm' := h2
      refine ⟨gx', gm', Or.inr ⟨⟨gi gm' 0 9, ?_, ?_⟩, h3⟩, h4, h6⟩
      · unfold F_X5_readNeed F_X5_readNeed_30 F_X5_readNeed_46
        rw [lt_def, m3, if_pos m1, hS.sx, h1', Option.bind_some, h3.take, Option.bind_some]
        dsimp only
        rw [if_pos rfl]
        by_cases q : k < 1
        · rw [if_pos (c1.mpr q)]
        · rw [if_neg (fun r => q (c1.mp r)), if_neg (fun r => hk ⟨by omega, c2.mp r⟩)]
      · unfold F_X7_howMany F_X7_howMany_19 F_X7_howMany_43 F_X7_howMany_53
        rw [m_good hS.f0m, Option.bind_some, if_neg (by decide), if_pos m2, Option.bind_some, if_neg (by decide), m4, hS.sm, h2', Option.bind_some, lt_def, h3.bad, Option.bind_some, if_pos rfl]
        by_cases q : k < 1
        · rw [if_pos (c1.mpr q)]
        · rw [if_neg (fun r => q (c1.mp r)), if_neg (fun r => hk ⟨by omega, c2.mp r⟩)]
  · obtain ⟨gx', gm', h1, h2, h3, h4, h6⟩ := s_wrong hS
    refine ⟨gx', gm', Or.inr ⟨⟨gi gm' 0 9, ?_, ?_⟩, h3⟩, h4, h6⟩
    · unfold F_X5_readNeed F_X5_readNeed_46 F_X4_take
      rw [lt_def, if_neg (hS.nnum hn).1, if_pos hS.f0x, if_neg (hS.nnum hn).1, h1, Option.bind_some, Option.bind_some]
      rfl
    · have := (f_need h3).2
      unfold F_X7_howMany at this ⊢
      rw [h3.bad, Option.bind_some, if_pos rfl] at this
      rw [m_good hS.f0m, Option.bind_some, if_neg (by decide), if_neg (hS.nnum hn).2, h2, Option.bind_some]
      exact this
end NEED
