/-! paths read by both sides -/
def upn (p : Nat → Nat) (i c j : Nat) : Nat := if j = i then c else p j
theorem upn_s {p : Nat → Nat} {i c : Nat} : upn p i c i = c := if_pos rfl
theorem upn_n {p : Nat → Nat} {i c j : Nat} (h : ¬ j = i) : upn p i c j = p j := if_neg h
section PATH
variable {gx gm : GM} {len : Nat} {tx : Nat → Nat} {t : Tk} {s e b T wb P N : Nat} {S : St}
theorem x_target_s {U c : Nat} (h : SS 6 b gx gm S) (hU : U < sT S) (hc : c < sC S U) : F_X2_target_s (nI U) (nI c) gx = some (cd 0 (sL S U c)) := by
  obtain ⟨t1, t2, t3, t4, t5, t6⟩ := h.tb hU
  have h5 := h.r16
  unfold F_X2_target_s
  rw [x_hasColumn_s h.1.2.1 h.1.2.2.1 hU t2 t1 (by omega), Option.bind_some, if_pos hc, if_neg (by decide), x_slot, Option.bind_some, ck_true (inB_nI (by omega) (by decide)), nI_clamp (by omega), (t6 c hc).2.2.1]
theorem x_target_m1 {U : Nat} (h : SS 6 b gx gm S) (hU : U < sT S) : F_X2_target_s (nI U) (-1) gx = some (-1) := by
  have h5 := h.r16
  unfold F_X2_target_s F_X2_hasColumn_s F_X2_hasColumn_s_30
  rw [if_neg (nI_pos (by omega)), h.1.2.2.1, if_neg (nI_ge hU (by omega)), if_pos (by decide), Option.bind_some, if_pos rfl]
theorem x_col {U : Nat} (h : SS 6 b gx gm S) (hU : U < sT S) {wd v : Int64} (hn : NR wd v) : F_X2_columnNamed_s (nI U) wd gx = some (cd 0 (ff (fun c => decide (gl gm 4 (5 * (5 * b + U) + c) = v)) (sC S U) 0)) := by
  obtain ⟨t1, t2, t3, t4, t5, t6⟩ := h.tb hU
  rw [x_columnNamed_s h.1.2.1 h.1.2.2.1 hU t2 t1 wd, ← p_column h.1 hU hn]
theorem m_col {U : Nat} (h : SS 6 b gx gm S) (hU : U < sT S) (v : Int64) : F_X7_columnOf (nI (5 * b + U)) v gm = some (cd (5 * (5 * b + U)) (ff (fun c => decide (gl gm 4 (5 * (5 * b + U) + c) = v)) (sC S U) 0)) := by
  obtain ⟨t1, t2, t3, t4, t5, t6⟩ := h.tb hU
  have h5 := h.r16
  exact m_columnOf (by omega) t1 t3 v
theorem fa_names (hF : Fa gx gm) (x : Int32) (n : Nat) : fixN F_X5_readPath_36B (n + 1) (x, gx) = some gx := by
  have st : ∀ kb, F_X5_readPath_36B kb (x, gx) = some gx := by
    intro kb
    unfold F_X5_readPath_36B F_X5_readPath_186
    dsimp only
    rw [if_neg hF.nx, hF.refuseT, Option.bind_some]
  exact st _
def PNx (a i : Nat) : Prop := (a = 1 ∧ 4 ≤ i ∧ i ≤ 10) ∨ (a = 42 ∧ i = 4) ∨ a = 43
def PNm (wb P N a i : Nat) : Prop := (a = 0 ∧ ((4 ≤ i ∧ i ≤ 10) ∨ i = 41)) ∨ (a = 24 ∧ i = 40 * wb + P) ∨ (a = 25 ∧ 160 * wb + N ≤ i ∧ i < 160 * wb + 160)
theorem Ow.pnx {g g' : GM} (h : Ow PT QT g g') : Ow PNx QT g g' := h.mono (fun a b q => Or.inl q) (fun a b q => q)
theorem Ow.pnm {g g' : GM} (h : Ow PTm QTm g g') : Ow (PNm wb P N) QTm g g' := h.mono (fun a b q => Or.inl ⟨q.1, Or.inl q.2⟩) (fun a b q => q)
def NM (gx gm : GM) (S : St) (b T wb N i : Nat) (p : Nat → Nat) : Prop := SS 6 b gx gm S ∧ gi gm 0 23 = nI b ∧ gi gx 42 4 = nI i ∧ (∀ j, j < i → gi gx 43 j = nI (p j)) ∧ gi gm 0 38 = nI wb ∧ gi gm 0 41 = nI (N + i) ∧ (∀ j, j < i → gi gm 25 (160 * wb + N + j) = nI (p j)) ∧ PP S T p i
theorem NM.ow {gx' gm' : GM} {i : Nat} {p : Nat → Nat} (h : NM gx gm S b T wb N i p) (hx : Ow PT QT gx gx') (hm : Ow PTm QTm gm gm') : NM gx' gm' S b T wb N i p := by
  obtain ⟨h1, h2, h3, h4, h5, h6, h7, h8⟩ := h
  have nx : ∀ a i, ¬ a = 1 → gi gx' a i = gi gx a i := fun a i q => hx.1 a i (fun r => q r.1)
  have nm : ∀ a i, ¬ (a = 0 ∧ i ≤ 10) → gi gm' a i = gi gm a i := fun a i q => hm.1 a i (fun r => q ⟨r.1, r.2.2⟩)
  exact ⟨h1.ow hx hm, by rw [nm _ _ (by omega)]; exact h2, by rw [nx _ _ (by decide)]; exact h3, fun j hj => by rw [nx _ _ (by decide)]; exact h4 j hj, by rw [nm _ _ (by omega)]; exact h5, by rw [nm _ _ (by omega)]; exact h6, fun j hj => by rw [nm _ _ (by omega)]; exact h7 j hj, h8⟩
theorem s_names (hT : T < sT S) (hwb : wb < 2) (hP : P < 40) (hN : N + 4 ≤ 160) : ∀ d i gx gm t s e p, i + d = 4 → Sy gx gm len tx true t s e → NM gx gm S b T wb N i p → ∀ n m, d + 2 < n → d + 2 < m →
    ∃ gx' gm', fixN F_X5_readPath_36B n (nI (tbn S T p i), gx) = some gx' ∧ fixN (F_X7_readPath_79B (nI (40 * wb + P))) m (nI (5 * b + tbn S T p i), nI i, 1, gm) = some gm' ∧ Ow PNx QT gx gx' ∧ Ow (PNm wb P N) QTm gm gm' ∧
    (Fa gx' gm' ∨ ∃ t' s' e' p' L, Sy gx' gm' len tx true t' s' e' ∧ s < s' ∧ PV S T p' L ∧ (gi gx' 42 4 = nI L ∧ ∀ j, j < L → gi gx' 43 j = nI (p' j)) ∧ gi gm' 0 41 = nI (N + L) ∧ gi gm' 24 (40 * wb + P) = nI (160 * wb + N + L) ∧ ∀ j, j < L → gi gm' 25 (160 * wb + N + j) = nI (p' j)) := by
  intro d
  induction d with
  | zero =>
    intro i gx gm t s e p hi hS hM n m hn hm
    have e4 : i = 4 := by omega
    subst e4
    obtain ⟨n, rfl⟩ : ∃ k, n = k + 1 := ⟨n - 1, by omega⟩
    obtain ⟨m, rfl⟩ : ∃ k, m = k + 1 := ⟨m - 1, by omega⟩
    obtain ⟨h1, h2, h3, h4, h5, h6, h7, h8⟩ := hM
    obtain ⟨gx', gm', a1, a2, a3, a4, a5⟩ := s_wrong hS
    refine ⟨gx', gm', ?_, ?_, a4.pnx, a5.pnm, Or.inl a3⟩
    · have st : ∀ kb, F_X5_readPath_36B kb (nI (tbn S T p 4), gx) = some gx' := by
        intro kb
        unfold F_X5_readPath_36B F_X5_readPath_186
        dsimp only
        rw [if_pos hS.f0x, h3, if_pos (by decide), a1, Option.bind_some]
      exact st _
    · have st : ∀ kb, F_X7_readPath_79B (nI (40 * wb + P)) kb (nI (5 * b + tbn S T p 4), nI 4, 1, gm) = some gm' := by
        intro kb
        unfold F_X7_readPath_79B F_X7_readPath_105 F_X7_readPath_109
        dsimp only
        rw [if_neg (by decide), m_good hS.f0m, Option.bind_some, if_neg (by decide), a2, Option.bind_some, a3.bad, Option.bind_some, if_pos rfl, if_pos (show nI 4 = 4 from rfl)]
        split <;> rfl
      exact st _
  | succ d ih =>
    intro i gx gm t s e p hi hS hM n m hn hm
    have hM0 := hM
    obtain ⟨n, rfl⟩ : ∃ k, n = k + 2 := ⟨n - 2, by omega⟩
    obtain ⟨m, rfl⟩ : ∃ k, m = k + 2 := ⟨m - 2, by omega⟩
    obtain ⟨h1, h2, h3, h4, h5, h6, h7, h8⟩ := hM
    have hU := h1.tbl hT i h8
    have hb5 := h1.r16
    generalize hUe : tbn S T p i = U at *
    rcases Tk.isNam t with ⟨wd, v, rfl⟩ | hnn
    · obtain ⟨m1, m2, m3, m4, m5⟩ := hS.nam
      have hse : s < e := hS.2.2.2.2.2.1.2.2.1 (by simp)
      have c1 := x_col h1 hU m5
      have c2 := m_col h1 hU v
      obtain ⟨t1, t2, t3, t4, t5, t6⟩ := h1.tb hU
      have hle := ff_le (fun c => decide (gl gm 4 (5 * (5 * b + U) + c) = v)) (sC S U)
      have stX : ∀ kb ck, ff (fun c => decide (gl gm 4 (5 * (5 * b + U) + c) = v)) (sC S U) 0 = ck → F_X5_readPath_36B kb (nI U, gx) = (F_X2_target_s (nI U) (cd 0 ck) (si (si gx 43 i (cd 0 ck)) 42 4 (nI (i + 1)))).bind fun r_9 => (F_X4_advance (si (si gx 43 i (cd 0 ck)) 42 4 (nI (i + 1)))).bind fun g_11 => if cd 0 ck = -1 then F_X5_readPath_161 kb r_9 (nI s) g_11 else if r_9 = -1 then F_X5_readPath_141 kb r_9 (nI s) 0 g_11 else F_X5_readPath_141 kb r_9 (nI s) 1 g_11 := by
        intro kb ck hck
        unfold F_X5_readPath_36B
        dsimp only
        have q4 : gi (si gx 43 i (cd 0 ck)) 42 4 + 1 = nI (i + 1) := by rw [gi_si, if_neg (by omega), h3, nI_1]
        rw [if_pos hS.f0x, h3, if_neg (show ¬ (4 : Int32) ≤ nI i from nI_ge (a := i) (b := 4) (by omega) (by decide)), if_pos m1, lt_def, hS.sx, m3, c1, Option.bind_some, lt_def, ck_true (inB_nI (by omega) (by decide)), nI_clamp (by omega), lt_def, hck, q4, lt_def]
        rfl
      have stM : ∀ kb ck, ff (fun c => decide (gl gm 4 (5 * (5 * b + U) + c) = v)) (sC S U) 0 = ck → F_X7_readPath_79B (nI (40 * wb + P)) kb (nI (5 * b + U), nI i, 1, gm) = (F_X7_next gm).bind fun g_13 => (F_X7_is 46 g_13).bind fun r_14 => if cd (5 * (5 * b + U)) ck < 0 then F_X7_readPath_171 kb (nI (40 * wb + P)) (nI (5 * b + U)) (nI i) r_14 (nI s) (cd (5 * (5 * b + U)) ck) g_13 else ckB (inB (cd (5 * (5 * b + U)) ck) 50) (if (gi g_13 7 (cd (5 * (5 * b + U)) ck).toNatClampNeg) < 0 then F_X7_readPath_166 kb (nI (40 * wb + P)) (nI (5 * b + U)) (nI i) r_14 (nI s) (cd (5 * (5 * b + U)) ck) 0 g_13 else F_X7_readPath_166 kb (nI (40 * wb + P)) (nI (5 * b + U)) (nI i) r_14 (nI s) (cd (5 * (5 * b + U)) ck) 1 g_13) := by
        intro kb ck hck
        unfold F_X7_readPath_79B F_X7_readPath_109
        dsimp only
        rw [if_neg (by decide), m_good hS.f0m, Option.bind_some, if_neg (by decide), if_pos m2, if_neg (fun q => by have := (nI_eq (b := 4) (by omega) (by decide)).mp q; omega), Option.bind_some, if_neg (by decide), lt_def, hS.sm, m4, c2, Option.bind_some, lt_def, hck]
        rfl
      -- the class's memory with the column laid down
      have TX : ∀ x : Int32, TgX gx (si (si gx 43 i x) 42 4 (nI (i + 1))) := fun x => ((TgX.rf gx).si (by decide) (by decide)).si (by decide) (by decide)
      have OX : ∀ x : Int32, Ow PNx QT gx (si (si gx 43 i x) 42 4 (nI (i + 1))) := fun x => ((Ow.rf gx).si (Or.inr (Or.inr rfl))).si (Or.inr (Or.inl ⟨rfl, rfl⟩))
      have HX : ∀ x : Int32, SS 6 b (si (si gx 43 i x) 42 4 (nI (i + 1))) gm S := fun x => h1.mv (fun a k ha => ⟨by rw [gi_si, if_neg (by omega), gi_si, if_neg (by omega)], rfl⟩) AgM.rf
      rcases hk : ff (fun c => decide (gl gm 4 (5 * (5 * b + U) + c) = v)) (sC S U) 0 with _ | c
      · -- no such column
        have hS1 := hS.tg (TX (cd 0 0)) (TgM.rf gm)
        obtain ⟨gx1, gm1, t1', s1, e1, p1, p2, p3, p4, p5, p6⟩ := s_adv hS1
        obtain ⟨gx2, gm2, q1, q2, q3, q4, q5⟩ := s_fail p3 (k := 4) (p := s) (by decide) (by decide)
        have q1' : F_X4_refuse 4 (nI s) gx1 = some gx2 := q1
        have q2' : F_X7_fails 4 (nI s) gm1 = some gm2 := q2
        refine ⟨gx2, gm2, ?_, ?_, ((OX _).tr p5.pnx).tr q4.pnx, p6.pnm.tr q5.pnm, Or.inl q3⟩
        · show F_X5_readPath_36B _ _ = _
          rw [stX _ 0 hk, show cd 0 0 = -1 from rfl, x_target_m1 (HX _) hU, Option.bind_some]
          rw [show cd 0 0 = -1 from rfl] at p1
          rw [p1, Option.bind_some, if_pos rfl]
          unfold F_X5_readPath_161 F_X5_readPath_170
          rw [q1', Option.bind_some, if_pos rfl]
        · show F_X7_readPath_79B _ _ _ = _
          obtain ⟨r, hr⟩ : ∃ r, F_X7_is 46 gm1 = some r := by
            by_cases q : t1' = Tk.sgn 46
            · exact ⟨1, (m_is p3 (d := 46) (by decide)).1 q⟩
            · exact ⟨0, (m_is p3 (d := 46) (by decide)).2 q⟩
          rw [stM _ 0 hk, p2, Option.bind_some, hr, Option.bind_some, cd0, if_pos (by decide)]
          unfold F_X7_readPath_171 F_X7_readPath_178
          rw [q2', Option.bind_some, q3.bad, Option.bind_some, if_pos rfl]
      · have hc : c < sC S U := by omega
        obtain ⟨u1, u2, u3, u4⟩ := t6 c hc
        have hS1 := hS.tg (TX (cd 0 (c + 1))) (TgM.rf gm)
        obtain ⟨gx1, gm1, t1', s1, e1, p1, p2, p3, p4, p5, p6⟩ := s_adv hS1
        have g7 : gi gm1 7 (5 * (5 * b + U) + c) = cd (5 * b) (sL S U c) := by rw [p6.1 _ _ (fun q => by have := q.1; omega)]; exact u4
        have hle5 : 5 * (5 * b + U) + c < 50 := by omega
        have X0 : ∀ kb, F_X5_readPath_36B kb (nI U, gx) = if cd 0 (sL S U c) = -1 then F_X5_readPath_141 kb (cd 0 (sL S U c)) (nI s) 0 gx1 else F_X5_readPath_141 kb (cd 0 (sL S U c)) (nI s) 1 gx1 := by
          intro kb
          rw [stX _ (c + 1) hk]
          rw [p1, cd0S, x_target_s (HX _) hU hc, Option.bind_some, Option.bind_some, if_neg (nI_ne1 (by omega))]
        have M0 : ∀ kb r, F_X7_is 46 gm1 = some r → F_X7_readPath_79B (nI (40 * wb + P)) kb (nI (5 * b + U), nI i, 1, gm) = if (cd (5 * b) (sL S U c)) < 0 then F_X7_readPath_166 kb (nI (40 * wb + P)) (nI (5 * b + U)) (nI i) r (nI s) (nI (5 * (5 * b + U) + c)) 0 gm1 else F_X7_readPath_166 kb (nI (40 * wb + P)) (nI (5 * b + U)) (nI i) r (nI s) (nI (5 * (5 * b + U) + c)) 1 gm1 := by
          intro kb r hr
          rw [stM _ (c + 1) hk, p2, Option.bind_some, hr, Option.bind_some, cdS, if_neg (nI_pos (by omega)), ck_true (inB_nI hle5 (by decide)), nI_clamp (by omega), g7]
        -- a fault 4
        have bad : ∀ r, F_X7_is 46 gm1 = some r → (sL S U c = 0 → r = 1) → (0 < sL S U c → r = 0) → (∀ kb, F_X5_readPath_36B kb (nI U, gx) = F_X5_readPath_161 kb (cd 0 (sL S U c)) (nI s) gx1) → ∃ gx' gm', fixN F_X5_readPath_36B (n + 2) (nI U, gx) = some gx' ∧ fixN (F_X7_readPath_79B (nI (40 * wb + P))) (m + 2) (nI (5 * b + U), nI i, 1, gm) = some gm' ∧ Ow PNx QT gx gx' ∧ Ow (PNm wb P N) QTm gm gm' ∧ Fa gx' gm' := by
          intro r hr r1 r0 hX
          obtain ⟨gx2, gm2, q1, q2, q3, q4, q5⟩ := s_fail p3 (k := 4) (p := s) (by decide) (by decide)
          have q1' : F_X4_refuse 4 (nI s) gx1 = some gx2 := q1
          have q2' : F_X7_fails 4 (nI s) gm1 = some gm2 := q2
          have eM : ∀ kb, F_X7_readPath_79B (nI (40 * wb + P)) kb (nI (5 * b + U), nI i, 1, gm) = some gm2 := by
            intro kb
            rw [M0 kb r hr]
            unfold F_X7_readPath_166 F_X7_readPath_171 F_X7_readPath_178
            rcases Nat.eq_zero_or_pos (sL S U c) with l0 | l0
            · rw [if_pos ((cd_neg (by omega)).mpr l0), r1 l0, if_neg (by decide), q2', Option.bind_some, q3.bad, Option.bind_some, if_pos rfl]
            · rw [if_neg (fun q => by have := (cd_neg (by omega)).mp q; omega), r0 l0, if_neg (by decide), q2', Option.bind_some, q3.bad, Option.bind_some, if_pos rfl]
          by_cases l0 : cd 0 (sL S U c) = -1
          · refine ⟨gx2, gm2, ?_, eM _, ((OX _).tr p5.pnx).tr q4.pnx, p6.pnm.tr q5.pnm, q3⟩
            show F_X5_readPath_36B _ _ = _
            rw [hX]
            unfold F_X5_readPath_161 F_X5_readPath_170
            rw [q1', Option.bind_some, if_pos l0]
          · obtain ⟨gx3, w1, w2, w3⟩ := q3.adv
            refine ⟨gx3, gm2, ?_, eM _, (((OX _).tr p5.pnx).tr q4.pnx).tr w3.pnx, p6.pnm.tr q5.pnm, w2⟩
            show F_X5_readPath_36B _ _ = _
            rw [hX]
            unfold F_X5_readPath_161 F_X5_readPath_170
            rw [q1', Option.bind_some, if_neg l0, w1, Option.bind_some]
            exact fa_names w2 _ n
        by_cases hd : t1' = Tk.sgn 46
        · have hr := (m_is p3 (d := 46) (by decide)).1 hd
          have k46 : gi gx1 1 5 = 46 := by rw [p3.kx]; exact (k_sgn p3.dx (d := 46) (by decide)).mpr hd
          rcases Nat.eq_zero_or_pos (sL S U c) with l0 | l0
          · obtain ⟨gx', gm', z1, z2, z3, z4, z5⟩ := bad 1 hr (fun _ => rfl) (fun q => by omega) (fun kb => by
              rw [X0, if_pos ((cd_m1 (by omega)).mpr l0)]
              unfold F_X5_readPath_141 F_X5_readPath_158
              rw [if_pos k46, if_neg (by decide)])
            exact ⟨gx', gm', z1, z2, z3, z4, Or.inl z5⟩
          · -- a link, and on
            have nl : ¬ cd 0 (sL S U c) = -1 := fun q => by have := (cd_m1 (by omega)).mp q; omega
            obtain ⟨l, hl⟩ : ∃ l, sL S U c = l + 1 := ⟨sL S U c - 1, by omega⟩
            have n41 : gi gm1 0 41 = nI (N + i) := by rw [p6.1 _ _ (fun q => by have := q.2; omega)]; exact h6
            have n38 : gi gm1 0 38 = nI wb := by rw [p6.1 _ _ (fun q => by have := q.2; omega)]; exact h5
            have hS2 := p3.tg (TgX.rf gx1) ((((TgM.rf gm1).si (a := 25) (k := 160 * wb + (N + i)) (v := nI c) (Or.inl (by decide)) (by decide))).si (a := 0) (k := 41) (v := nI (N + i + 1)) (Or.inr (Or.inr (by decide))) (by decide))
            obtain ⟨gx2, gm2, t2', s2, e2, y1, y2, y3, y4, y5, y6⟩ := s_adv hS2
            have hp' : tbn S T (upn p i c) i = U := by rw [← tbn_cong S T (p := p) i (fun j hj => (upn_n (by omega)).symm)]; exact hUe
            have hp1 : tbn S T (upn p i c) (i + 1) = l := by
              show sL S (tbn S T (upn p i c) i) (upn p i c i) - 1 = l
              rw [hp', upn_s, hl]; rfl
            have hM1 : NM gx2 gm2 S b T wb N (i + 1) (upn p i c) := by
              have hA : NM gx1 (si (si gm1 25 (160 * wb + (N + i)) (nI c)) 0 41 (nI (N + i + 1))) S b T wb N (i + 1) (upn p i c) := by
                refine ⟨?_, ?_, ?_, fun j hj => ?_, ?_, ?_, fun j hj => ?_, fun j hj => ?_⟩
                · exact ((HX _).ow p5 p6).mv (fun _ _ _ => ⟨rfl, rfl⟩) (fun a k hq => ⟨by rw [gi_si, if_neg (by unfold BKm at hq; omega), gi_si, if_neg (by unfold BKm at hq; omega)], rfl⟩)
                · rw [gi_si, if_neg (by decide), gi_si, if_neg (by omega), p6.1 _ _ (fun q => by have := q.2; omega)]; exact h2
                · rw [p5.1 _ _ (fun q => by have := q.1; omega), gi_same]
                · rw [p5.1 _ _ (fun q => by have := q.1; omega), gi_si, if_neg (by omega)]
                  by_cases ej : j = i
                  · subst ej; rw [gi_same, upn_s, cd0S]
                  · rw [gi_si, if_neg (by omega), upn_n ej]; exact h4 j (by omega)
                · rw [gi_si, if_neg (by decide), gi_si, if_neg (by omega)]; exact n38
                · rw [gi_same]; rfl
                · rw [gi_si, if_neg (by omega)]
                  by_cases ej : j = i
                  · subst ej; rw [upn_s, gi_si, if_pos ⟨rfl, by omega⟩]
                  · rw [gi_si, if_neg (by omega), upn_n ej, p6.1 _ _ (fun q => by have := q.1; omega)]; exact h7 j (by omega)
                · by_cases ej : j = i
                  · subst ej; rw [hp', upn_s]; exact ⟨hc, l0⟩
                  · rw [← tbn_cong S T (p := p) j (fun k hk => (upn_n (by omega)).symm), upn_n ej]; exact h8 j (by omega)
              exact hA.ow y5 y6
            obtain ⟨gx', gm', z1, z2, z3, z4, z5⟩ := ih (i + 1) gx2 gm2 t2' s2 e2 _ (by omega) y3 hM1 (n + 1) (m + 1) (by omega) (by omega)
            rw [hp1] at z1 z2
            have OM : Ow (PNm wb P N) QTm gm gm2 := ((p6.pnm.si (Or.inr (Or.inr ⟨rfl, by omega, by omega⟩))).si (Or.inl ⟨rfl, Or.inr rfl⟩)).tr y6.pnm
            refine ⟨gx', gm', ?_, ?_, (((OX _).tr p5.pnx).tr y5.pnx).tr z3, OM.tr z4, ?_⟩
            · show F_X5_readPath_36B _ _ = _
              rw [X0, if_neg nl]
              unfold F_X5_readPath_141 F_X5_readPath_158 F_X5_readPath_170
              rw [if_pos k46, if_pos rfl, if_neg nl, y1, Option.bind_some, hl, cd0S]
              exact z1
            · show F_X7_readPath_79B _ _ _ = _
              have q7 : gi (si (si gm1 25 (160 * wb + (N + i)) (nI c)) 0 41 (nI (N + i + 1))) 7 (5 * (5 * b + U) + c) = nI (5 * b + l) := by
                rw [gi_si, if_neg (by omega), gi_si, if_neg (by omega), g7, hl, cdS]
              have q41 : gi (si gm1 25 (160 * wb + (N + i)) (nI c)) 0 41 + 1 = nI (N + i + 1) := by rw [gi_si, if_neg (by omega), n41, nI_1]
              have qs : nI (5 * (5 * b + U) + c) - 5 * nI (5 * b + U) = nI c := by rw [l5, nI_sub (by omega)]; congr 1; omega
              rw [M0 _ 1 hr, if_neg (fun q => by have := (cd_neg (by omega)).mp q; omega)]
              unfold F_X7_readPath_166 F_X7_readPath_178 F_X7_readPath_240
              rw [if_pos rfl, m_good p3.f0m, Option.bind_some, if_neg (by decide), n38, n41, l160, nI_add, ck_true (inB_nI (by omega) (by decide)), nI_clamp (by omega), qs, lt_def, q41, lt_def, nI_1, lt_def, if_neg (by decide), ck_true (inB_nI hle5 (by decide)), nI_clamp (by omega), q7, lt_def, y2, Option.bind_some]
              exact z2
            · rcases z5 with z | ⟨t', s', e', p', L, z6, z7, z8⟩
              · exact Or.inl z
              · have ho := p3.2.2.2.2.2.1.1
                exact Or.inr ⟨t', s', e', p', L, z6, by omega, z8⟩
        · have hr := (m_is p3 (d := 46) (by decide)).2 hd
          have k46 : ¬ gi gx1 1 5 = 46 := by rw [p3.kx]; exact fun q => hd ((k_sgn p3.dx (d := 46) (by decide)).mp q)
          rcases Nat.eq_zero_or_pos (sL S U c) with l0 | l0
          · -- the last name
            have n41 : gi gm1 0 41 = nI (N + i) := by rw [p6.1 _ _ (fun q => by have := q.2; omega)]; exact h6
            have n38 : gi gm1 0 38 = nI wb := by rw [p6.1 _ _ (fun q => by have := q.2; omega)]; exact h5
            have hp' : tbn S T (upn p i c) i = U := by rw [← tbn_cong S T (p := p) i (fun j hj => (upn_n (by omega)).symm)]; exact hUe
            have hPV : PV S T (upn p i c) (i + 1) := by
              refine ⟨i, rfl, by omega, h8.cong (fun j hj => (upn_n (by omega)).symm), ?_, ?_⟩
              · rw [hp', upn_s]; exact hc
              · rw [hp', upn_s]; exact l0
            refine ⟨gx1, si (si (si gm1 25 (160 * wb + (N + i)) (nI c)) 0 41 (nI (N + i + 1))) 24 (40 * wb + P) (nI (160 * wb + (N + i + 1))), ?_, ?_, (OX _).tr p5.pnx, ((p6.pnm.si (Or.inr (Or.inr ⟨rfl, by omega, by omega⟩))).si (Or.inl ⟨rfl, Or.inr rfl⟩)).si (Or.inr (Or.inl ⟨rfl, rfl⟩)), Or.inr ⟨t1', s1, e1, _, i + 1, p3.tg (TgX.rf gx1) ((((TgM.rf gm1).si (Or.inl (by decide)) (by decide)).si (Or.inr (Or.inr (by decide))) (by decide)).si (Or.inl (by decide)) (by decide)), by omega, hPV, ⟨?_, fun j hj => ?_⟩, ?_, ?_, fun j hj => ?_⟩⟩
            · show F_X5_readPath_36B _ _ = _
              rw [X0, if_pos ((cd_m1 (by omega)).mpr l0)]
              unfold F_X5_readPath_141 F_X5_readPath_158 F_X5_readPath_170
              rw [if_neg k46, if_pos rfl, if_pos ((cd_m1 (by omega)).mpr l0)]
            · show F_X7_readPath_79B _ _ _ = _
              have q41 : gi (si gm1 25 (160 * wb + (N + i)) (nI c)) 0 41 + 1 = nI (N + i + 1) := by rw [gi_si, if_neg (by omega), n41, nI_1]
              have qs : nI (5 * (5 * b + U) + c) - 5 * nI (5 * b + U) = nI c := by rw [l5, nI_sub (by omega)]; congr 1; omega
              have q38 : gi (si (si gm1 25 (160 * wb + (N + i)) (nI c)) 0 41 (nI (N + i + 1))) 0 38 = nI wb := by rw [gi_si, if_neg (by decide), gi_si, if_neg (by omega)]; exact n38
              rw [M0 _ 0 hr, if_pos ((cd_neg (by omega)).mpr l0)]
              unfold F_X7_readPath_166 F_X7_readPath_178 F_X7_readPath_240
              rw [if_pos rfl, m_good p3.f0m, Option.bind_some, if_neg (by decide), n38, n41, l160, nI_add, ck_true (inB_nI (by omega) (by decide)), nI_clamp (by omega), qs, lt_def, q41, lt_def, nI_1, lt_def, if_pos rfl]
              show F_X7_readPath_79B _ _ _ = _
              unfold F_X7_readPath_79B F_X7_readPath_243
              dsimp only
              rw [if_pos rfl, ck_true (inB_nI (by omega) (by decide)), nI_clamp (by omega), q38, gi_same, l160, nI_add, lt_def]
            · rw [p5.1 _ _ (fun q => by have := q.1; omega), gi_same]
            · rw [p5.1 _ _ (fun q => by have := q.1; omega), gi_si, if_neg (by omega)]
              by_cases ej : j = i
              · subst ej; rw [gi_same, upn_s, cd0S]
              · rw [gi_si, if_neg (by omega), upn_n ej]; exact h4 j (by omega)
            · rw [gi_si, if_neg (by omega), gi_same]; rfl
            · rw [gi_same]; congr 1; omega
            · rw [gi_si, if_neg (by omega), gi_si, if_neg (by omega)]
              by_cases ej : j = i
              · subst ej; rw [upn_s, gi_si, if_pos ⟨rfl, by omega⟩]
              · rw [gi_si, if_neg (by omega), upn_n ej, p6.1 _ _ (fun q => by have := q.1; omega)]; exact h7 j (by omega)
          · have nl : ¬ cd 0 (sL S U c) = -1 := fun q => by have := (cd_m1 (by omega)).mp q; omega
            obtain ⟨gx', gm', z1, z2, z3, z4, z5⟩ := bad 0 hr (fun q => by omega) (fun _ => rfl) (fun kb => by
              rw [X0, if_neg nl]
              unfold F_X5_readPath_141 F_X5_readPath_158
              rw [if_neg k46, if_neg (by decide)])
            exact ⟨gx', gm', z1, z2, z3, z4, Or.inl z5⟩
    · -- no name
      obtain ⟨gx', gm', a1, a2, a3, a4, a5⟩ := s_wrong hS
      refine ⟨gx', gm', ?_, ?_, a4.pnx, a5.pnm, Or.inl a3⟩
      · have st : ∀ kb, F_X5_readPath_36B kb (nI U, gx) = some gx' := by
          intro kb
          unfold F_X5_readPath_36B F_X5_readPath_186
          dsimp only
          rw [if_pos hS.f0x, h3, if_neg (show ¬ (4 : Int32) ≤ nI i from nI_ge (a := i) (b := 4) (by omega) (by decide)), if_neg (hS.nnam hnn).1, a1, Option.bind_some]
        exact st _
      · have st : ∀ kb, F_X7_readPath_79B (nI (40 * wb + P)) kb (nI (5 * b + U), nI i, 1, gm) = some gm' := by
          intro kb
          unfold F_X7_readPath_79B F_X7_readPath_105 F_X7_readPath_109
          dsimp only
          rw [if_neg (by decide), m_good hS.f0m, Option.bind_some, if_neg (by decide), if_neg (hS.nnam hnn).2, a2, Option.bind_some, a3.bad, Option.bind_some, if_pos rfl]
        exact st _
end PATH
