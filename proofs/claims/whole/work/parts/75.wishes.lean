/-! wishes(): reading, whole -/
def PWm (wb a i : Nat) : Prop := (a = 0 ∧ ((4 ≤ i ∧ i ≤ 10) ∨ (39 ≤ i ∧ i ≤ 44))) ∨ a = 26 ∨ (a = 14 ∧ i = wb) ∨ (15 ≤ a ∧ a ≤ 20 ∧ 10 * wb ≤ i ∧ i < 10 * wb + 10) ∨ ((a = 21 ∨ a = 22) ∧ 600 * wb ≤ i ∧ i < 600 * wb + 600) ∨ ((a = 23 ∨ a = 24) ∧ 40 * wb ≤ i ∧ i < 40 * wb + 40) ∨ (a = 25 ∧ 160 * wb ≤ i ∧ i < 160 * wb + 160)
theorem Ow.pwm {wb W P N z : Nat} {g g' : GM} (h : Ow (PVm wb W P N z) QTm g g') (hW : W < 10) : Ow (PWm wb) QTm g g' := h.mono (fun a b q => by unfold PVm at q; unfold PWm; omega) (fun a b q => q)
theorem Ow.pwm' {wb : Nat} {g g' : GM} (h : Ow PTm QTm g g') : Ow (PWm wb) QTm g g' := h.mono (fun a b q => Or.inl ⟨q.1, Or.inl q.2⟩) (fun a b q => q)
section WALL
variable {len : Nat} {tx : Nat → Nat} {b wb : Nat} {S : St}
theorem s_wl (hwb : wb < 2) (hlen : len ≤ 600) : ∀ d i gx gm D P N z t s e, i + d = 11 → dW D = i → i ≤ 10 → Sy gx gm len tx true t s e → WRD gx gm S b wb D P N z → z ≤ s → ∀ n m, d + 1 < n → d + 1 < m →
    ∃ gx' gm', fixN F_X5_readAll_17B n (nI i, gx) = F_X5_readAll_106 gx' ∧ fixN F_X7_wishes_57B m gm = F_X7_wishes_78 gm' ∧ Ow PVx QT gx gx' ∧ Ow (PWm wb) QTm gm gm' ∧ ((∃ s' e' D' P' N' z', Sy gx' gm' len tx true Tk.fin s' e' ∧ WRD gx' gm' S b wb D' P' N' z') ∨ Fa gx' gm') := by
  intro d
  induction d with
  | zero => intro i gx gm D P N z t s e h1 _ h3; omega
  | succ d ih =>
    intro i gx gm D P N z t s e h1 hD h3 hS R hz n m hn hm
    obtain ⟨n, rfl⟩ : ∃ k, n = k + 2 := ⟨n - 2, by omega⟩
    obtain ⟨m, rfl⟩ : ∃ k, m = k + 2 := ⟨m - 2, by omega⟩
    have r14 : gi gm 14 wb = nI i := by rw [← hD]; exact R.1.2.2.2
    have r38 : gi gm 0 38 = nI wb := R.1.2.2.1
    have iL := m_isWord hS (j := 4) (by decide)
    have iW := m_isWord hS (j := 3) (by decide)
    rw [wM_tab.2.2.2.2.1] at iL
    rw [wM_tab.2.2.2.1] at iW
    have k0 : gi gx 1 5 = 0 ↔ t = Tk.fin := by rw [hS.kx]; exact k_fin hS.dx
    have k7 : gi gx 1 5 = 7 ↔ t = Tk.wrd 3 := by rw [hS.kx]; exact k_wrd hS.dx (j := 3) (by decide)
    have k8 : gi gx 1 5 = 8 ↔ t = Tk.wrd 4 := by rw [hS.kx]; exact k_wrd hS.dx (j := 4) (by decide)
    have n10 : ¬ (10 : Int32) < nI i := fun q => by have := (nI_ltI (a := 10) (b := i) (by decide) (by omega)).mp q; omega
    -- a fault ends both
    have fin0 : ∀ {gx' gm' : GM}, Fa gx' gm' → (∀ j, fixN F_X5_readAll_17B (n + 1) (j, gx') = F_X5_readAll_106 gx') ∧ fixN F_X7_wishes_57B (m + 1) gm' = F_X7_wishes_78 gm' := by
      intro gx' gm' hF
      refine ⟨fun j => ?_, ?_⟩
      · have st : ∀ kb, F_X5_readAll_17B kb (j, gx') = F_X5_readAll_106 gx' := by
          intro kb
          unfold F_X5_readAll_17B
          dsimp only
          rw [if_neg hF.nx]
          split <;> rfl
        exact st _
      · have st : ∀ kb, F_X7_wishes_57B kb gm' = F_X7_wishes_78 gm' := by
          intro kb
          unfold F_X7_wishes_57B
          rw [hF.bad, Option.bind_some, if_pos rfl]
        exact st _
    by_cases cf : t = Tk.fin
    · subst cf
      refine ⟨gx, gm, ?_, ?_, Ow.rf gx, Ow.rf gm, Or.inl ⟨s, e, D, P, N, z, hS, R⟩⟩
      · have st : ∀ kb, F_X5_readAll_17B kb (nI i, gx) = F_X5_readAll_106 gx := by
          intro kb
          unfold F_X5_readAll_17B
          dsimp only
          rw [if_neg n10, if_pos hS.f0x, if_pos (k0.mpr rfl)]
        exact st _
      · have st : ∀ kb, F_X7_wishes_57B kb gm = F_X7_wishes_78 gm := by
          intro kb
          unfold F_X7_wishes_57B
          rw [m_good hS.f0m, Option.bind_some, if_neg (by decide), hS.km, if_pos (show kM Tk.fin = 0 from rfl)]
        exact st _
    · have m8 : ¬ gi gm 0 8 = 0 := by
        rw [hS.km]
        rcases t with _ | _ | ⟨w, v⟩ | j | k | c
        · exact absurd rfl cf
        · decide
        · show ¬ (2 : Int32) = 0; decide
        · show ¬ (3 : Int32) = 0; decide
        · show ¬ (4 : Int32) = 0; decide
        · show ¬ (5 : Int32) = 0; decide
      have eM : ∀ kb, F_X7_wishes_57B kb gm = (F_X7_readWish gm).bind fun g_5 => kb g_5 := by
        intro kb
        unfold F_X7_wishes_57B
        rw [m_good hS.f0m, Option.bind_some, if_neg (by decide), if_neg m8]
      have eX : ∀ kb, F_X5_readAll_17B kb (nI i, gx) = if (gi gx 1 5) = 7 then if (10 : Int32) ≤ nI i then F_X5_readAll_68 kb (nI i) gx else (F_X5_readWish gx).bind fun g_4 => F_X5_readAll_100 kb (nI i) g_4 else F_X5_readAll_68 kb (nI i) gx := by
        intro kb
        unfold F_X5_readAll_17B
        dsimp only
        rw [if_neg n10, if_pos hS.f0x, if_neg (fun q => cf (k0.mp q))]
      -- what can't stand here
      have bad : (∀ kb, F_X5_readAll_17B kb (nI i, gx) = F_X5_readAll_93 kb (nI i) gx) → (∀ gm', F_X7_wrong gm = some gm' → F_X7_isGood gm' = some 0 → F_X7_readWish gm = some gm') → ∃ gx' gm', fixN F_X5_readAll_17B (n + 2) (nI i, gx) = F_X5_readAll_106 gx' ∧ fixN F_X7_wishes_57B (m + 2) gm = F_X7_wishes_78 gm' ∧ Ow PVx QT gx gx' ∧ Ow (PWm wb) QTm gm gm' ∧ Fa gx' gm' := by
        intro hX hM
        obtain ⟨gx', gm', a1, a2, a3, a4, a5⟩ := s_wrong hS
        refine ⟨gx', gm', ?_, ?_, a4.pux.pvx, a5.pwm', a3⟩
        · show F_X5_readAll_17B (fixN F_X5_readAll_17B (n + 1)) (nI i, gx) = _
          rw [hX]
          unfold F_X5_readAll_93 F_X5_readAll_100
          rw [a1, Option.bind_some, lt_def]
          exact (fin0 a3).1 _
        · show F_X7_wishes_57B (fixN F_X7_wishes_57B (m + 1)) gm = _
          rw [eM, hM gm' a2 a3.bad, Option.bind_some]
          exact (fin0 a3).2
      -- one more
      have more : ∀ (gx1 gm1 : GM), i < 10 → (∀ kb, F_X5_readAll_17B kb (nI i, gx) = kb (nI (i + 1), gx1)) → F_X7_readWish gm = some gm1 → Ow PVx QT gx gx1 → Ow (PVm wb (dW D) P N z) QTm gm gm1 → (Fa gx1 gm1 ∨ ∃ t' s' e' D' P' N' z', Sy gx1 gm1 len tx true t' s' e' ∧ s < s' ∧ z' ≤ s' ∧ dW D' = dW D + 1 ∧ WRD gx1 gm1 S b wb D' P' N' z') → ∃ gx' gm', fixN F_X5_readAll_17B (n + 2) (nI i, gx) = F_X5_readAll_106 gx' ∧ fixN F_X7_wishes_57B (m + 2) gm = F_X7_wishes_78 gm' ∧ Ow PVx QT gx gx' ∧ Ow (PWm wb) QTm gm gm' ∧ ((∃ s' e' D' P' N' z', Sy gx' gm' len tx true Tk.fin s' e' ∧ WRD gx' gm' S b wb D' P' N' z') ∨ Fa gx' gm') := by
        intro gx1 gm1 hi hX hM ox om hr
        have eX2 : fixN F_X5_readAll_17B (n + 2) (nI i, gx) = fixN F_X5_readAll_17B (n + 1) (nI (i + 1), gx1) := hX _
        have eM2 : fixN F_X7_wishes_57B (m + 2) gm = fixN F_X7_wishes_57B (m + 1) gm1 := by
          show F_X7_wishes_57B (fixN F_X7_wishes_57B (m + 1)) gm = _
          rw [eM, hM, Option.bind_some]
        rw [eX2, eM2]
        have om' := om.pwm (by omega)
        rcases hr with hF | ⟨t', s', e', D', P', N', z', y1, y2, y3, y4, y5⟩
        · exact ⟨gx1, gm1, (fin0 hF).1 _, (fin0 hF).2, ox, om', Or.inr hF⟩
        · obtain ⟨gx', gm', a1, a2, a3, a4, a5⟩ := ih (i + 1) gx1 gm1 D' P' N' z' t' s' e' (by omega) (by omega) (by omega) y1 y5 y3 (n + 1) (m + 1) (by omega) (by omega)
          exact ⟨gx', gm', a1, a2, ox.tr a3, om'.tr a4, a5⟩
      by_cases c3 : t = Tk.wrd 3
      · have l0 : F_X7_isWord 7102839 gm = some 0 := iL.2 (by rw [c3]; simp)
        by_cases hi : i < 10
        · obtain ⟨gx1, gm1, a1, a2, a3, a4, a5⟩ := s_wish hwb hlen hS c3 (by omega) R hz
          refine more gx1 gm1 hi (fun kb => ?_) ?_ a3 a4 a5
          · rw [eX, if_pos (k7.mpr c3), if_neg (show ¬ (10 : Int32) ≤ nI i from nI_ge (a := i) (b := 10) hi (by decide)), a1, Option.bind_some]
            unfold F_X5_readAll_100
            rw [lt_def, nI_1]
          · unfold F_X7_readWish F_X7_readWish_22
            rw [l0, Option.bind_some, lt_def, if_pos rfl, iW.1 c3, Option.bind_some, if_neg (by decide), r38, ck_true (inB_nI hwb (by decide)), nI_clamp (by omega), r14, if_neg (fun q => by have := (nI_eq (b := 10) (by omega) (by decide)).mp q; omega)]
            exact a2
        · have e10 : i = 10 := by omega
          subst e10
          obtain ⟨gx', gm', a1, a2, a3, a4, a5⟩ := bad (fun kb => by
            rw [eX, if_pos (k7.mpr c3), if_pos (by decide)]
            unfold F_X5_readAll_68
            rw [if_neg (fun q => by have := k8.mp q; rw [c3] at this; simp at this)]) (fun gm' h1 h2 => by
            unfold F_X7_readWish F_X7_readWish_22 F_X7_readWish_36 F_X7_readWish_40
            rw [l0, Option.bind_some, lt_def, if_pos rfl, iW.1 c3, Option.bind_some, if_neg (by decide), r38, ck_true (inB_nI hwb (by decide)), nI_clamp (by omega), r14, if_pos (show nI 10 = 10 from rfl), h1, Option.bind_some, h2, Option.bind_some, if_pos rfl])
          exact ⟨gx', gm', a1, a2, a3, a4, Or.inr a5⟩
      · by_cases c4 : t = Tk.wrd 4
        · by_cases hi : i < 10
          · obtain ⟨gx1, gm1, a1, a2, a3, a4, a5⟩ := s_law hwb hlen hS c4 (by omega) R hz
            refine more gx1 gm1 hi (fun kb => ?_) ?_ a3 a4 a5
            · rw [eX, if_neg (fun q => c3 (k7.mp q))]
              unfold F_X5_readAll_68 F_X5_readAll_100
              rw [if_pos (k8.mpr c4), if_neg (show ¬ (10 : Int32) ≤ nI i from nI_ge (a := i) (b := 10) hi (by decide)), a1, Option.bind_some, lt_def, nI_1]
            · unfold F_X7_readWish F_X7_readWish_22
              rw [iL.1 c4, Option.bind_some, lt_def, if_neg (by decide), r38, ck_true (inB_nI hwb (by decide)), nI_clamp (by omega), r14, if_neg (fun q => by have := (nI_eq (b := 10) (by omega) (by decide)).mp q; omega)]
              exact a2
          · have e10 : i = 10 := by omega
            subst e10
            obtain ⟨gx', gm', a1, a2, a3, a4, a5⟩ := bad (fun kb => by
              rw [eX, if_neg (fun q => c3 (k7.mp q))]
              unfold F_X5_readAll_68
              rw [if_pos (k8.mpr c4), if_pos (by decide)]) (fun gm' h1 h2 => by
              unfold F_X7_readWish F_X7_readWish_22 F_X7_readWish_36 F_X7_readWish_40
              rw [iL.1 c4, Option.bind_some, lt_def, if_neg (by decide), r38, ck_true (inB_nI hwb (by decide)), nI_clamp (by omega), r14, if_pos (show nI 10 = 10 from rfl), h1, Option.bind_some, h2, Option.bind_some, if_pos rfl])
            exact ⟨gx', gm', a1, a2, a3, a4, Or.inr a5⟩
        · obtain ⟨gx', gm', a1, a2, a3, a4, a5⟩ := bad (fun kb => by
            rw [eX, if_neg (fun q => c3 (k7.mp q))]
            unfold F_X5_readAll_68
            rw [if_neg (fun q => c4 (k8.mp q))]) (fun gm' h1 h2 => by
            unfold F_X7_readWish F_X7_readWish_36 F_X7_readWish_40
            rw [iL.2 c4, Option.bind_some, lt_def, if_pos rfl, iW.2 c3, Option.bind_some, if_pos rfl, h1, Option.bind_some, h2, Option.bind_some, if_pos rfl])
          exact ⟨gx', gm', a1, a2, a3, a4, Or.inr a5⟩
def PGx (a i : Nat) : Prop := (a = 1 ∧ 3 ≤ i ∧ i ≤ 10) ∨ (35 ≤ a ∧ a ≤ 43)
def QGx (a i : Nat) : Prop := (a = 1 ∧ i = 8) ∨ a = 42 ∨ a = 43
def PGm (wb a i : Nat) : Prop := (a = 0 ∧ ((2 ≤ i ∧ i ≤ 11) ∨ (38 ≤ i ∧ i ≤ 44))) ∨ a = 2 ∨ PWm wb a i
theorem s_wishesR {gx gm : GM} (hT : TP gx gm len tx) (hlen : len ≤ 600) (hr : RsX gx) (hs : SS 6 b gx gm S) (h23 : gi gm 0 23 = nI b) (hwb : wb < 2) (h37 : gi gm 0 37 = nI wb) :
    ∃ gx4 gm4 r, F_X5_readAll (zi (zi gx 42) 43) = some (r, gx4) ∧ F_X7_wishes gm = F_X7_wishes_78 gm4 ∧ Ow PGx QGx gx gx4 ∧ Ow (PGm (1 - wb)) QTm gm gm4 ∧ gi gm4 0 2 = 0 ∧ gi gx4 1 9 = gi gm4 0 4 ∧ gi gx4 1 10 = gi gm4 0 5 ∧
    ((r = 0 ∧ F_X7_isGood gm4 = some 0) ∨ (r = 1 ∧ gi gm4 0 4 = 0 ∧ ∃ D P N z, WRD gx4 gm4 S b (1 - wb) D P N z)) := by
  have hwb' : 1 - wb < 2 := by omega
  obtain ⟨gm1, t1, t2, t3, t4, t5, t6, t7, t8⟩ := m_takeTape hT (w := true)
  have t1' : F_X7_takeTape 1 gm = some gm1 := t1
  have c37 : gi gm1 0 37 = nI wb := by rw [t8.1 _ _ (by unfold PK; omega)]; exact h37
  -- the reference's beginning
  have c38 : gi (si gm1 0 38 (nI (1 - wb))) 0 38 = nI (1 - wb) := gi_same
  have eM : F_X7_wishes gm = (F_X7_next (si (si (si (si (si gm1 0 38 (nI (1 - wb))) 14 (1 - wb) 0) 0 39 0) 0 40 0) 0 41 0)).bind fun g_12 => fixN F_X7_wishes_57B FU g_12 := by
    unfold F_X7_wishes
    rw [hT.2.2.1, if_pos (show nI len ≤ 600 from nI_le hlen (by decide)), t1', Option.bind_some, c37, bk_sub hwb, lt_def, c38, ck_true (inB_nI hwb' (by decide)), nI_clamp (by omega), lt_def, lt_def, lt_def, lt_def]
  have nm : ∀ a i, ¬ (a = 0 ∧ 38 ≤ i ∧ i ≤ 41) → ¬ (a = 14 ∧ i = 1 - wb) → gi (si (si (si (si (si gm1 0 38 (nI (1 - wb))) 14 (1 - wb) 0) 0 39 0) 0 40 0) 0 41 0) a i = gi gm1 a i := fun a i p q => by
    rw [gi_si, if_neg (by omega), gi_si, if_neg (by omega), gi_si, if_neg (by omega), gi_si, if_neg q, gi_si, if_neg (by omega)]
  have v38 : gi (si (si (si (si (si gm1 0 38 (nI (1 - wb))) 14 (1 - wb) 0) 0 39 0) 0 40 0) 0 41 0) 0 38 = nI (1 - wb) := by
    rw [gi_si, if_neg (by decide), gi_si, if_neg (by decide), gi_si, if_neg (by decide), gi_si, if_neg (by omega), gi_same]
  have v14 : gi (si (si (si (si (si gm1 0 38 (nI (1 - wb))) 14 (1 - wb) 0) 0 39 0) 0 40 0) 0 41 0) 14 (1 - wb) = 0 := by
    rw [gi_si, if_neg (by omega), gi_si, if_neg (by omega), gi_si, if_neg (by omega), gi_same]
  have v39 : gi (si (si (si (si (si gm1 0 38 (nI (1 - wb))) 14 (1 - wb) 0) 0 39 0) 0 40 0) 0 41 0) 0 39 = 0 := by
    rw [gi_si, if_neg (by decide), gi_si, if_neg (by decide), gi_same]
  have v40 : gi (si (si (si (si (si gm1 0 38 (nI (1 - wb))) 14 (1 - wb) 0) 0 39 0) 0 40 0) 0 41 0) 0 40 = 0 := by
    rw [gi_si, if_neg (by decide), gi_same]
  have v41 : gi (si (si (si (si (si gm1 0 38 (nI (1 - wb))) 14 (1 - wb) 0) 0 39 0) 0 40 0) 0 41 0) 0 41 = 0 := gi_same
  have ow2 : Ow (PGm (1 - wb)) QTm gm (si (si (si (si (si gm1 0 38 (nI (1 - wb))) 14 (1 - wb) 0) 0 39 0) 0 40 0) 0 41 0) := by
    refine (((((t8.mono (fun a i q => ?_) (fun a i q => q.elim)).si (Or.inl ⟨rfl, by omega⟩)).si (Or.inr (Or.inr (Or.inr (Or.inr (Or.inl ⟨rfl, rfl⟩)))))).si (Or.inl ⟨rfl, by omega⟩)).si (Or.inl ⟨rfl, by omega⟩)).si (Or.inl ⟨rfl, by omega⟩)
    unfold PK at q
    rcases q with q | q
    · exact Or.inl (by omega)
    · exact Or.inr (Or.inl q)
  have lg2 : ∀ a i, gl (si (si (si (si (si gm1 0 38 (nI (1 - wb))) 14 (1 - wb) 0) 0 39 0) 0 40 0) 0 41 0) a i = gl gm a i := fun a i => by
    rw [gl_si, gl_si, gl_si, gl_si, gl_si, t8.2 a i (fun q => q)]
  generalize hgm2 : si (si (si (si (si gm1 0 38 (nI (1 - wb))) 14 (1 - wb) 0) 0 39 0) 0 40 0) 0 41 0 = gm2 at *
  -- the class's beginning
  have nx : ∀ a i, ¬ (a = 35 ∧ (i = 0 ∨ i = 4)) → ¬ a = 42 → ¬ a = 43 → gi (si (si (zi (zi gx 42) 43) 35 0 0) 35 4 0) a i = gi gx a i := fun a i p q r => by
    rw [gi_si, if_neg (by omega), gi_si, if_neg (by omega), zi_gi, if_neg r, zi_gi, if_neg q]
  have lx : ∀ a i, ¬ a = 42 → ¬ a = 43 → gl (si (si (zi (zi gx 42) 43) 35 0 0) 35 4 0) a i = gl gx a i := fun a i q r => by
    rw [gl_si, gl_si, zi_gl, if_neg r, zi_gl, if_neg q]
  have x350 : gi (si (si (zi (zi gx 42) 43) 35 0 0) 35 4 0) 35 0 = 0 := by rw [gi_si, if_neg (by decide), gi_same]
  have x354 : gi (si (si (zi (zi gx 42) 43) 35 0 0) 35 4 0) 35 4 = 0 := gi_same
  have x425 : gi (si (si (zi (zi gx 42) 43) 35 0 0) 35 4 0) 42 5 = 0 := by rw [gi_si, if_neg (by decide), gi_si, if_neg (by decide), zi_gi, if_neg (by decide), zi_gi, if_pos rfl]
  have eX : ∀ g, F_X4_open 1 (si (si (zi (zi gx 42) 43) 35 0 0) 35 4 0) = some g → F_X5_readAll (zi (zi gx 42) 43) = fixN F_X5_readAll_17B FU (0, g) := by
    intro g hg
    unfold F_X5_readAll F_X1_clear_e
    rw [lt_def, lt_def, Option.bind_some, hg, Option.bind_some]
  generalize hgx2 : si (si (zi (zi gx 42) 43) 35 0 0) 35 4 0 = gx2 at *
  have hX2 : XTx gx2 len tx := ⟨hT.1, by rw [nx _ _ (by omega) (by decide) (by decide)]; exact hT.2.1, fun j hj => ⟨(hT.2.2.2 j hj).1, by rw [nx _ _ (by omega) (by decide) (by decide)]; exact (hT.2.2.2 j hj).2.1⟩⟩
  have hM2 : MTx gm2 len tx := ⟨t2.1, by rw [nm _ _ (by omega) (by omega)]; exact t2.2.1, fun j hj => ⟨(t2.2.2 j hj).1, by rw [nm _ _ (by omega) (by omega)]; exact (t2.2.2 j hj).2⟩⟩
  obtain ⟨gx5, gm5, t, s, e, o1, o2, o3, o4, o5⟩ := s_open (w := true) hX2 (fun i hi => by rw [lx _ _ (by decide) (by decide)]; exact hr i hi) hM2 (by rw [nm _ _ (by omega) (by omega)]; exact t7) (by rw [nm _ _ (by omega) (by omega)]; exact t4) (by rw [nm _ _ (by omega) (by omega)]; exact t5) (by rw [nm _ _ (by omega) (by omega)]; exact t3)
  have o1' : F_X4_open 1 gx2 = some gx5 := o1
  have hx5 : ∀ a i, ¬ a = 1 → gi gx5 a i = gi gx2 a i := fun a i q => o4.1 a i (fun r => q r.1)
  have lx5 : ∀ a i, ¬ a = 1 → gl gx5 a i = gl gx2 a i := fun a i q => o4.2 a i (fun r => q r.1)
  have hm5 : ∀ a i, ¬ (a = 0 ∧ 4 ≤ i ∧ i ≤ 10) → gi gm5 a i = gi gm2 a i := fun a i q => o5.1 a i q
  have R : WRD gx5 gm5 S b (1 - wb) D00 0 0 0 := by
    refine ⟨⟨?_, ?_, ?_, ?_⟩, ⟨?_, ?_, ?_, by decide, by decide, ?_⟩, ⟨?_, fun k hk => absurd hk (Nat.not_lt_zero _), 0, fun _ => 0, fun _ => 0, fun _ => 0, ?_, Nat.zero_le _, fun j hj => absurd hj (Nat.not_lt_zero _), fun j hj => absurd hj (Nat.not_lt_zero _), fun k hk => absurd hk (Nat.not_lt_zero _)⟩, ⟨Nat.zero_le _, fun k hk => absurd hk (Nat.not_lt_zero _)⟩, fun k hk => absurd hk (Nat.not_lt_zero _)⟩
    · refine hs.mv (fun a i ha => ⟨?_, ?_⟩) (fun a i hq => ⟨?_, ?_⟩)
      · rw [hx5 _ _ (by omega), nx _ _ (by omega) (by omega) (by omega)]
      · rw [lx5 _ _ (by omega), lx _ _ (by omega) (by omega)]
      · have hq' := hq
        unfold BKm at hq'
        rw [hm5 _ _ (by omega), ow2.1 _ _ (by unfold PGm PWm; omega)]
      · have hq' := hq
        unfold BKm at hq'
        rw [o5.2 _ _ (by unfold QTm; omega), lg2]
    · rw [hm5 _ _ (by omega), ow2.1 _ _ (by unfold PGm PWm; omega)]; exact h23
    · rw [hm5 _ _ (by omega)]; exact v38
    · rw [hm5 _ _ (by omega)]; exact v14
    · rw [hx5 _ _ (by decide)]; exact x425
    · rw [hm5 _ _ (by omega)]; exact v40
    · rw [hm5 _ _ (by omega)]; exact v41
    · rw [hm5 _ _ (by omega)]; exact v39
    · rw [hx5 _ _ (by decide)]; exact x350
    · rw [hx5 _ _ (by decide)]; exact x354
  obtain ⟨gx6, gm6, p1, p2, p3, p4, p5⟩ := s_wl hwb' hlen 11 0 gx5 gm5 D00 0 0 0 t s e rfl rfl (by decide) o3 R (Nat.zero_le _) FU FU (by decide) (by decide)
  have p1' : fixN F_X5_readAll_17B FU (0, gx5) = F_X5_readAll_106 gx6 := p1
  have ox6 : Ow PGx QGx gx gx6 := by
    refine ⟨fun a i q => ?_, fun a i q => ?_⟩
    · unfold PGx at q
      rw [p3.1 _ _ (by unfold PVx; omega), o4.1 _ _ (fun r => by unfold PO at r; omega), nx _ _ (by omega) (by omega) (by omega)]
    · unfold QGx at q
      rw [p3.2 _ _ (by unfold QT; omega), o4.2 _ _ (fun r => by unfold QT at r; omega), lx _ _ (by omega) (by omega)]
  have om6 : Ow (PGm (1 - wb)) QTm gm gm6 := (ow2.tr (o5.pwm'.mono (fun a i q => Or.inr (Or.inr q)) (fun a i q => q))).tr (p4.mono (fun a i q => Or.inr (Or.inr q)) (fun a i q => q))
  have e2 : gi gm6 0 2 = 0 := by rw [p4.1 _ _ (by unfold PWm; omega), hm5 _ _ (by omega), nm _ _ (by omega) (by omega)]; exact t6
  have eX6 : F_X5_readAll (zi (zi gx 42) 43) = F_X5_readAll_106 gx6 := by rw [eX gx5 o1', p1']
  have eM6 : F_X7_wishes gm = F_X7_wishes_78 gm6 := by rw [eM, o2, Option.bind_some, p2]
  rcases p5 with ⟨s', e', D', P', N', z', y1, y2⟩ | hF
  · refine ⟨gx6, gm6, 1, ?_, eM6, ox6, om6, e2, ?_, ?_, Or.inr ⟨rfl, y1.f0m, D', P', N', z', y2⟩⟩
    · rw [eX6]
      unfold F_X5_readAll_106
      rw [if_pos y1.f0x]
    · rw [y1.f0x, y1.f0m]
    · rw [y1.2.2.2.2.2.2.2.2.1, y1.2.2.2.2.2.2.2.2.2]
  · obtain ⟨k, p, _, _, g1, g2, g3, g4⟩ := hF.1
    refine ⟨gx6, gm6, 0, ?_, eM6, ox6, om6, e2, g1.trans g2.symm, g3.trans g4.symm, Or.inl ⟨rfl, hF.bad⟩⟩
    rw [eX6]
    unfold F_X5_readAll_106
    rw [if_neg hF.nx]
end WALL
