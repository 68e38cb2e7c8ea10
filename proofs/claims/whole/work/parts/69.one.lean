/-! one, and a whole e -/
theorem xor_m1 (m r : Nat) (hr : r < 16) : (m ^^^ 4294967295).testBit r = !(m.testBit r) := by
  rw [Nat.testBit_xor, all_m1 r hr, Bool.xor_true]
section ONES
variable {len : Nat} {tx : Nat → Nat} {b T wb w a P0 N0 : Nat} {S : St}
theorem x_one6 {gx gm : GM} {t : Tk} {s e n : Nat} (hS : Sy gx gm len tx true t s e) : ∃ gx' gm', F_X5_readOne (n + 1) (nI 6) gx = some (0, gx') ∧ F_X7_wrong gm = some gm' ∧ Fa gx' gm' ∧ Ow PT QT gx gx' ∧ Ow PTm QTm gm gm' := by
  obtain ⟨gx', gm', a1, a2, a3, a4, a5⟩ := s_wrong hS
  refine ⟨gx', gm', ?_, a2, a3, a4, a5⟩
  show F_X5_readOneR _ _ _ _ = _
  unfold F_X5_readOneR
  rw [if_pos hS.f0x, if_neg (by decide), a1, Option.bind_some]
theorem s_one (hT : T < sT S) (hwb : wb < 2) (hw : w < 10) (hlen : len ≤ 600) : ∀ n, ONE len tx S b T wb w a P0 N0 n := by
  intro n
  induction n with
  | zero =>
    intro d gx gm t s e P N z np pl st h7 hd
    omega
  | succ n ih =>
    intro d gx gm t s e P N z np pl st h7 hd hS hE hz hnp hnp3 hst
    have hln := hS.ln
    have h43 : gi gm 0 43 = nI np := hE.2.2.2.1
    have n16 := hE.1.1.r16
    have i40 := m_is hS (d := 40) (by decide)
    have iN := m_isWord hS (j := 8) (by decide)
    rw [wM_tab.2.2.2.2.2.2.2.2.1] at iN
    have k12 : gi gx 1 5 = 12 ↔ t = Tk.wrd 8 := by rw [hS.kx]; exact k_wrd hS.dx (j := 8) (by decide)
    have k40 : gi gx 1 5 = 40 ↔ t = Tk.sgn 40 := by rw [hS.kx]; exact k_sgn hS.dx (d := 40) (by decide)
    have eX : F_X5_readOne (n + 1) (nI d) gx = if (gi gx 1 5) = 12 then (F_X4_advance gx).bind fun g_10 => (F_X5_readOne n (nI (d + 1)) g_10).bind fun (r_11, g_12) => some (r_11 ^^^ (-1), g_12) else if (gi gx 1 5) = 40 then (F_X4_advance gx).bind fun g_4 => (F_X5_readEitherR (F_X5_readOne n) (nI (d + 1)) g_4).bind fun (r_5, g_6) => lt r_5 fun x2_7 => (F_X4_take 41 g_6).bind fun (r_8, g_9) => some (x2_7, g_9) else (F_X5_readPath gx).bind fun g_1 => (F_X5_readComparison g_1).bind fun (r_2, g_3) => some (r_2, g_3) := by
      show F_X5_readOneR _ _ _ _ = _
      unfold F_X5_readOneR
      rw [if_pos hS.f0x, if_pos (show nI d < 6 from nI_lt hd (by decide)), nI_1]
    -- the reference lays o down and goes on
    have down : ∀ o x, x = nI o → ¬ t = Tk.fin → F_X7_one (nI (10 * wb + w)) gm = F_X7_one_34 x gm → ∃ gx1 gm2 t1 s1 e1, F_X4_advance gx = some gx1 ∧ Sy gx1 gm2 len tx true t1 s1 e1 ∧ s < s1 ∧ EX gx1 gm2 S b T wb w a P0 N0 P N z (np + 1) (d + 1) (upn pl np o) st ∧ Ow PT QT gx gx1 ∧ Ow (PEm wb P0 N0 a) QTm gm gm2 ∧ F_X7_one (nI (10 * wb + w)) gm = if d + 1 < 6 then some (1, gm2) else (F_X7_wrong gm2).bind fun g_4 => some (1, g_4) := by
      intro o x hx htf e1
      obtain ⟨gmP, v1, v2, v3, v4⟩ := m_pile hE (by omega) hx
      obtain ⟨gx1, gm1, t1, s1, e1', y1, y2, y3, y4, y5, y6⟩ := s_adv (hS.tg (TgX.rf gx) v3)
      have hE1 := v2.ow y5 y6
      have hse : s < e := hS.2.2.2.2.2.1.2.2.1 htf
      have e44 : gi gm1 0 44 + 1 = nI (d + 1) := by rw [hE1.2.2.2.2.1, nI_1]
      refine ⟨gx1, si gm1 0 44 (nI (d + 1)), t1, s1, e1', y1, y3.tg (TgX.rf gx1) ((TgM.rf gm1).si (Or.inr (Or.inr (by decide))) (by decide)), by omega, ?_, y5, (v4.tr y6.pem).si (Or.inl ⟨rfl, Or.inr (by omega)⟩), ?_⟩
      · exact hE1.pil (fun a i p q => by rw [gi_si, if_neg (by omega)]) (fun _ _ => rfl) (by rw [gi_si, if_neg (by decide)]; exact hE1.2.2.2.1) gi_same (fun j hj => by rw [gi_si, if_neg (by omega)]; exact hE1.2.2.2.2.2 j hj)
      · rw [e1]
        unfold F_X7_one_34
        rw [v1, Option.bind_some, y2, Option.bind_some, e44, lt_def, gi_same]
        by_cases c : d + 1 < 6
        · rw [if_pos (show nI (d + 1) < 6 from nI_lt c (by decide)), if_pos c]
        · rw [if_neg (fun q => by have := (nI_ltI (b := 6) (by omega) (by decide)).mp q; omega), if_neg c]
    by_cases c1 : t = Tk.wrd 8
    · -- not
      have e1 : F_X7_one (nI (10 * wb + w)) gm = F_X7_one_34 3 gm := by
        unfold F_X7_one F_X7_one_19
        have i0 : F_X7_is 40 gm = some 0 := i40.2 (by rw [c1]; simp)
        rw [i0, Option.bind_some, if_pos rfl, iN.1 c1, Option.bind_some, if_neg (by decide), Option.bind_some, if_pos rfl]
      obtain ⟨gx1, gm2, t1, s1, e1', y1, y2, y3, y4, y5, y6, y7⟩ := down 3 3 rfl (by rw [c1]; simp) e1
      rw [eX, if_pos (k12.mpr c1), y1, Option.bind_some]
      by_cases c6 : d + 1 < 6
      · rw [if_pos c6] at y7
        have pre := e_one hS.f0m h43 hnp (by omega) y7
        obtain ⟨gx3, gm3, r, c, q1, q2, q3, q4⟩ := ih (d + 1) gx1 gm2 t1 s1 e1' P N z (np + 1) (upn pl np 3) st (by omega) c6 y2 y4 (by omega) (by omega) (by omega) (by omega)
        rw [q1, Option.bind_some]
        refine ⟨gx3, gm3, r ^^^ (-1), c + 1, rfl, y5.pex.tr q2, y6.tr q3, ?_⟩
        rcases q4 with ⟨x1, x2, x3⟩ | ⟨t', s', e', P', N', z', k, f, mr, x1, x2, x3, x4, x5, x6, x7, x8, x9⟩
        · refine Or.inl ⟨x1, by omega, fun m => ?_⟩
          rw [show m + (c + 1) + 2 = (m + c + 2) + 1 by omega, pre]
          exact x3 m
        · refine Or.inr ⟨t', s', e', P', N', z', k + 1, f, mr ^^^ 4294967295, fun m => ?_, x2, by omega, by omega, ?_, by omega, by omega, ?_, fun r hr hB => ?_⟩
          · rw [show m + (c + 1) = (m + c) + 1 by omega, pre]
            exact x1 m
          · rw [show np + 1 + k = np + (k + 1) by omega, show d + 1 + k = d + (k + 1) by omega] at x5
            refine x5.cong (fun j hj => ?_)
            by_cases j1 : j < np
            · rw [plN_l (by omega), plN_l j1, upn_n (by omega)]
            · rw [plN_r (by omega : np ≤ j)]
              by_cases j2 : j = np
              · subst j2; rw [plN_l (by omega), upn_s]
              · rw [plN_r (by omega)]
          · rw [x8, nI_m1, nI_xor]
          · rw [xor_m1 _ _ (by omega), x9 r hr hB]; rfl
      · rw [if_neg c6] at y7
        obtain ⟨n, rfl⟩ : ∃ k, n = k + 1 := ⟨n - 1, by omega⟩
        have hd5 : d + 1 = 6 := by omega
        obtain ⟨gx3, gm3, q1, q2, q3, q4, q5⟩ := x_one6 (n := n) y2
        rw [hd5, q1, Option.bind_some]
        rw [q2, Option.bind_some] at y7
        have pre := e_one hS.f0m h43 hnp (by omega) y7
        refine ⟨gx3, gm3, 0 ^^^ (-1), 0, rfl, y5.pex.tr q4.pex, y6.tr q5.pem, Or.inl ⟨q3, by omega, fun m => ?_⟩⟩
        rw [show m + 0 + 2 = (m + 1) + 1 by omega, pre]
        exact f_e17 q3 _ _ m
    · rw [if_neg (fun q => c1 (k12.mp q))] at eX
      by_cases c2 : t = Tk.sgn 40
      · -- (
        have e1 : F_X7_one (nI (10 * wb + w)) gm = F_X7_one_34 4 gm := by
          unfold F_X7_one F_X7_one_19
          have i1 : F_X7_is 40 gm = some 1 := i40.1 c2
          rw [i1, Option.bind_some, if_neg (by decide), Option.bind_some, if_neg (by decide)]
        obtain ⟨gx1, gm2, t1, s1, e1', y1, y2, y3, y4, y5, y6, y7⟩ := down 4 4 rfl (by rw [c2]; simp) e1
        rw [eX, if_pos (k40.mpr c2), y1, Option.bind_some]
        by_cases c6 : d + 1 < 6
        · rw [if_pos c6] at y7
          have pre := e_one hS.f0m h43 hnp (by omega) y7
          obtain ⟨gx3, gm3, r, c, q1, q2, q3, q4⟩ := s_either hwb hlen ih (len + 1) 0 (d + 1) gx1 gm2 t1 s1 e1' P N z np (upn pl np 4) st none none 0 4294967295 (by omega) c6 (by omega) (Nat.zero_le _) y2 y4 (fun h => absurd h (by decide)) (fun h => absurd h (by decide)) (by rw [upn_s]; decide) (by rw [upn_s]; decide) (by omega) (by omega) (show z + (np + 1 + 0 + 0) ≤ s1 + 1 by omega) (fun r _ _ => Nat.zero_testBit r) (fun r hr _ => all_m1 r (by omega)) FU (by show len + 1 + 1 < 70000; omega)
          have q1' : F_X5_readEitherR (F_X5_readOne n) (nI (d + 1)) gx1 = some (r, gx3) := by
            unfold F_X5_readEitherR
            rw [nI_m1]
            exact q1
          rw [q1', Option.bind_some]
          dsimp only
          rw [lt_def]
          rcases q4 with ⟨x1, x2, x3⟩ | ⟨t', s', e', P', N', z', f, mr, x1, x2, x3, x4, x5, x6, x7, x8⟩
          · rw [x1.take, Option.bind_some]
            refine ⟨gx3, gm3, r, c + 1, rfl, y5.pex.tr q2, y6.tr q3, Or.inl ⟨x1, by omega, fun m => ?_⟩⟩
            rw [show m + (c + 1) + 2 = (m + c + 2) + 1 by omega, pre]
            exact x3 m
          · -- the bracket goes
            have g43 : gi gm3 0 43 = nI (np + 1) := x5.2.2.2.1
            have g44 : gi gm3 0 44 = nI (d + 1) := x5.2.2.2.2.1
            have g26 : gi gm3 26 np = nI 4 := by rw [x5.2.2.2.2.2 np (by omega), upn_s]
            have hE5 : EX gx3 (si (si gm3 0 43 (nI np)) 0 44 (nI d)) S b T wb w a P0 N0 P' N' z' np d (plN pl np) (f :: st) := x5.pil (fun a i p q => by rw [gi_si, if_neg (by omega), gi_si, if_neg (by omega)]) (fun _ _ => rfl) (by rw [gi_si, if_neg (by decide), gi_same]) gi_same (fun j hj => by rw [gi_si, if_neg (by omega), gi_si, if_neg (by omega), x5.2.2.2.2.2 j (by omega), upn_n (by omega), plN_l hj])
            have tg5 : TgM gm3 (si (si gm3 0 43 (nI np)) 0 44 (nI d)) := ((TgM.rf gm3).si (Or.inr (Or.inr (by decide))) (by decide)).si (Or.inr (Or.inr (by decide))) (by decide)
            have ow5 : Ow (PEm wb P0 N0 a) QTm gm3 (si (si gm3 0 43 (nI np)) 0 44 (nI d)) := ((Ow.rf gm3).si (Or.inl ⟨rfl, Or.inr (by omega)⟩)).si (Or.inl ⟨rfl, Or.inr (by omega)⟩)
            obtain ⟨gx6, gm6, r6, u1, u2, u3, u4, u5, u6⟩ := s_take (x2.tg (TgX.rf gx3) tg5) (d := 41) (by decide)
            have u1' : F_X4_take 41 gx3 = some (r6, gx6) := u1
            have u2' : F_X7_is 41 (si (si gm3 0 43 (nI np)) 0 44 (nI d)) = some r6 := u2
            have eB : F_X7_behind_139 0 gm3 = some (0, gm6) := by
              have e44 : gi (si gm3 0 43 (nI np)) 0 44 - 1 = nI d := by rw [gi_si, if_neg (by decide), g44, nI_p1]
              have e26 : gi (si gm3 0 43 (nI np)) 26 np = 4 := by rw [gi_si, if_neg (by omega)]; exact g26
              unfold F_X7_behind_139
              rw [if_pos (by decide), g43, nI_p1, lt_def, gi_same, ck_true (inB_nI (by omega) (by decide)), nI_clamp (by omega), e26, if_pos rfl, e44, lt_def, u2', Option.bind_some, u3, Option.bind_some]
            rw [u1', Option.bind_some]
            have X1 := x1 0 gm6 eB
            rcases u4 with ⟨_, w1, t7, s7, e7, w2, w3⟩ | ⟨_, _, hF⟩
            · have hse : s' < e' := x2.2.2.2.2.2.1.2.2.1 (by rw [w1]; simp)
              refine ⟨gx6, gm6, r, c + 2, rfl, (y5.pex.tr q2).tr u5.pex, ((y6.tr q3).tr ow5).tr u6.pem, Or.inr ⟨t7, s7, e7, P', N', z', 0, f, mr, fun m => ?_, w2, by omega, by omega, hE5.ow u5 u6, by omega, by omega, x7, x8⟩⟩
              rw [show m + (c + 2) = (m + c + 1) + 1 by omega, pre]
              exact X1 m
            · refine ⟨gx6, gm6, r, c + 1, rfl, (y5.pex.tr q2).tr u5.pex, ((y6.tr q3).tr ow5).tr u6.pem, Or.inl ⟨hF, by have := x2.ln; omega, fun m => ?_⟩⟩
              rw [show m + (c + 1) + 2 = (m + 1 + c + 1) + 1 by omega, pre, X1]
              exact f_e17 hF _ _ m
        · rw [if_neg c6] at y7
          obtain ⟨n, rfl⟩ : ∃ k, n = k + 1 := ⟨n - 1, by omega⟩
          have hd5 : d + 1 = 6 := by omega
          obtain ⟨gx3, gm3, q1, q2, q3, q4, q5⟩ := x_one6 (n := n) y2
          rw [q2, Option.bind_some] at y7
          have pre := e_one hS.f0m h43 hnp (by omega) y7
          obtain ⟨r', gx4, u1, u2, u3⟩ := fa_either q3 (F_X5_readOne (n + 1)) (nI 6) 0 (-1 &&& 0) 0 69998
          have eE : F_X5_readEitherR (F_X5_readOne (n + 1)) (nI 6) gx1 = some (r', gx4) := by
            unfold F_X5_readEitherR
            show F_X5_readEitherR_7B (F_X5_readOne (n + 1)) (nI 6) (fixN (F_X5_readEitherR_7B (F_X5_readOne (n + 1)) (nI 6)) 69999) (0, -1, 0, gx1) = _
            have st : ∀ kb, F_X5_readEitherR_7B (F_X5_readOne (n + 1)) (nI 6) kb (0, -1, 0, gx1) = if (gi gx3 1 5) = 13 then F_X5_readEitherR_50 (F_X5_readOne (n + 1)) kb (nI 6) 0 (-1 &&& 0) 0 1 gx3 else F_X5_readEitherR_50 (F_X5_readOne (n + 1)) kb (nI 6) 0 (-1 &&& 0) 0 0 gx3 := by
              intro kb
              unfold F_X5_readEitherR_7B
              dsimp only
              rw [if_neg (by decide), if_pos y2.f0x, q1, Option.bind_some]
              dsimp only
              rw [lt_def]
            rw [st]
            exact u1
          rw [hd5, eE, Option.bind_some]
          dsimp only
          rw [lt_def, u2.take, Option.bind_some]
          refine ⟨gx4, gm3, r', 0, rfl, (y5.pex.tr q4.pex).tr u3.pex, y6.tr q5.pem, Or.inl ⟨u2, by omega, fun m => ?_⟩⟩
          rw [show m + 0 + 2 = (m + 1) + 1 by omega, pre]
          exact f_e17 q3 _ _ m
      · -- a path
        rw [if_neg (fun q => c2 (k40.mp q))] at eX
        obtain ⟨gx1, gm1, r, q1, q2, q3, q4⟩ := s_atom hT hwb hw hS hE hlen hz hnp (by omega) c2 c1
        rw [eX, q1]
        rcases q4 with ⟨x1, x2⟩ | ⟨t', s', e', P', N', f, m', x1, x2, x3, x4, x5, x6, x7, x8⟩
        · have pre := e_one hS.f0m h43 hnp (by omega) x2
          refine ⟨gx1, gm1, r, 0, rfl, q2, q3, Or.inl ⟨x1, by omega, fun m => ?_⟩⟩
          rw [show m + 0 + 2 = (m + 1) + 1 by omega, pre]
          exact f_e17 x1 _ _ m
        · have pre := e_one hS.f0m h43 hnp (by omega) x1
          refine ⟨gx1, gm1, r, 1, rfl, q2, q3, Or.inr ⟨t', s', e', P', N', z + 2, 0, f, m', fun m => pre m, x2, by omega, x3, x5.cong (fun j hj => (plN_l (by omega)).symm), by omega, by omega, x6, x8⟩⟩
end ONES
