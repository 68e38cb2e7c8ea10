/-! a law read by both sides -/
section LAW
variable {gx gm : GM} {len : Nat} {tx : Nat → Nat} {t : Tk} {s e b wb w P N z : Nat} {S : St} {D : Dm}
theorem x_cn {u : Nat} (h : SS 6 b gx gm S) (hu : u < sT S) (wd : Int64) : ∃ k, k ≤ sC S u ∧ F_X2_columnNamed_s (nI u) wd gx = some (cd 0 k) := by
  obtain ⟨t1, t2, t3, t4, t5, t6⟩ := h.tb hu
  exact ⟨_, ff_le _ _, x_columnNamed_s h.1.2.1 h.1.2.2.1 hu t2 t1 wd⟩
theorem f_119 (hF : Fa gx gm) (x1 x2 x3 x4 : Int32) : F_X5_readLaw_119 x1 x2 x3 x4 gx = some gx := by
  unfold F_X5_readLaw_119
  rw [hF.take, Option.bind_some]
  dsimp only
  rw [if_pos rfl]
theorem f_104 (hF : Fa gx gm) (x1 x2 x3 x4 : Int32) : F_X5_readLaw_104 x1 x2 x3 x4 gx = some gx := by
  unfold F_X5_readLaw_104
  rw [hF.refuse, Option.bind_some, f_119 hF]
/-- the class's last steps -/
def lw4 (x1 x2 x3 : Int32) (g : GM) : Option GM := (F_X2_columnNamed_s x3 (gl g 1 8) g).bind fun r_21 => lt r_21 fun x4_22 => if (gi g 1 5) = 2 then if x4_22 = (-1) then F_X5_readLaw_104 x1 x2 x3 x4_22 g else (F_X2_target_s x3 x4_22 g).bind fun r_23 => if r_23 = x1 then F_X5_readLaw_119 x1 x2 x3 x4_22 g else F_X5_readLaw_104 x1 x2 x3 x4_22 g else F_X5_readLaw_119 x1 x2 x3 x4_22 g
def lw3 (x1 x2 x3 : Int32) (g : GM) : Option GM := (F_X4_take 11 g).bind fun (_, g_20) => lw4 x1 x2 x3 g_20
def lw2 (x1 x2 : Int32) (g : GM) : Option GM := (F_X4_takeTable_s g).bind fun (r_16, g_17) => lw3 x1 x2 r_16 g_17
def lw1 (x1 : Int32) (g : GM) : Option GM := (F_X5_readNeed g).bind fun (r_13, g_14) => lw2 x1 r_13 g_14
def lw0 (x1 : Int32) (g : GM) : Option GM := (F_X4_take 10 g).bind fun (_, g_12) => lw1 x1 g_12
theorem lw_eq (g : GM) : F_X5_readLaw g = (F_X4_advance g).bind fun g_7 => (F_X4_takeTable_s g_7).bind fun (r_8, g_9) => lw0 r_8 g_9 := rfl
theorem f_lw4 (hF : Fa gx gm) (h : SS 6 b gx gm S) (x1 x2 x3 : Int32) (hx : x3 = -1 ∨ ∃ u, u < sT S ∧ x3 = nI u) : lw4 x1 x2 x3 gx = some gx := by
  unfold lw4
  rcases hx with rfl | ⟨u, hu, rfl⟩
  · rw [x_columnNamed_m1, Option.bind_some, lt_def, if_pos rfl, f_104 hF, f_119 hF]
    split <;> rfl
  · obtain ⟨k, k1, k2⟩ := x_cn h hu (gl gx 1 8)
    have h5 := (h.tb hu).1
    rw [k2, Option.bind_some, lt_def, f_104 hF, f_119 hF]
    by_cases c1 : gi gx 1 5 = 2
    · rw [if_pos c1]
      rcases Nat.eq_zero_or_pos k with rfl | hp
      · rw [cd0, if_pos rfl]
      · obtain ⟨c, rfl⟩ : ∃ c, k = c + 1 := ⟨k - 1, by omega⟩
        rw [cd0S, if_neg (nI_ne1 (by omega)), x_target_s h hu (by omega), Option.bind_some]
        split <;> rfl
    · rw [if_neg c1]
theorem f_lw3 (hF : Fa gx gm) (h : SS 6 b gx gm S) (x1 x2 x3 : Int32) (hx : x3 = -1 ∨ ∃ u, u < sT S ∧ x3 = nI u) : lw3 x1 x2 x3 gx = some gx := by
  unfold lw3
  rw [hF.take, Option.bind_some]
  exact f_lw4 hF h x1 x2 x3 hx
theorem f_lw2 (hF : Fa gx gm) (h : SS 6 b gx gm S) (x1 x2 : Int32) : lw2 x1 x2 gx = some gx := by
  unfold lw2
  rw [(f_tabS hF h).1, Option.bind_some]
  exact f_lw3 hF h x1 x2 _ (Or.inl rfl)
theorem f_lw1 (hF : Fa gx gm) (h : SS 6 b gx gm S) (x1 : Int32) : lw1 x1 gx = some gx := by
  unfold lw1
  rw [(f_need hF).1, Option.bind_some]
  exact f_lw2 hF h x1 _
theorem f_lw0 (hF : Fa gx gm) (h : SS 6 b gx gm S) (x1 : Int32) : lw0 x1 gx = some gx := by
  unfold lw0
  rw [hF.take, Option.bind_some]
  exact f_lw1 hF h x1
/-- the reference's last steps -/
def mw3 (x2 : Int32) (g : GM) : Option GM := (F_X7_readBy x2 g).bind fun g_21 => F_X7_readWish_159 1 x2 g_21
def mw2 (x2 : Int32) (g : GM) : Option GM := (F_X7_isWord 25209 g).bind fun r_19 => (F_X7_must r_19 g).bind fun g_20 => mw3 x2 g_20
def mw1 (x2 : Int32) (g : GM) : Option GM := (F_X7_aTable g).bind fun (r_16, g_17) => ckB (inB x2 20) <| lt (si g_17 17 x2.toNatClampNeg r_16) fun g_18 => mw2 x2 g_18
def mw0 (x2 : Int32) (g : GM) : Option GM := (F_X7_howMany g).bind fun (r_10, g_11) => ckB (inB x2 20) <| lt (si g_11 16 x2.toNatClampNeg r_10) fun g_12 => mw1 x2 g_12
theorem mw_eq (x2 : Int32) (g : GM) : F_X7_readWish_106 1 x2 g = mw0 x2 g := rfl
theorem mw_eq1 (x2 : Int32) (g : GM) : F_X7_readWish_91 1 x2 g = (F_X7_isWord 474147546227 g).bind fun r_22 => (F_X7_must r_22 g).bind fun g_23 => mw0 x2 g_23 := rfl
theorem f_mw3 (hF : Fa gx gm) (h38 : gi gm 0 38 = nI wb) (hwb : wb < 2) (hw : w < 10) : ∃ gm', mw3 (nI (10 * wb + w)) gm = some gm' ∧ Fa gx gm' ∧ Ow (PVm wb w P N z) QTm gm gm' := by
  obtain ⟨gm', a1, a2, a3⟩ := f_w159 (P := P) (N := N) (z := z) hF h38 hwb hw 1
  refine ⟨gm', ?_, a2, a3⟩
  unfold mw3
  rw [f_readBy hF, Option.bind_some]
  exact a1
theorem f_mw2 (hF : Fa gx gm) (h38 : gi gm 0 38 = nI wb) (hwb : wb < 2) (hw : w < 10) : ∃ gm', mw2 (nI (10 * wb + w)) gm = some gm' ∧ Fa gx gm' ∧ Ow (PVm wb w P N z) QTm gm gm' := by
  obtain ⟨gm', a1, a2, a3⟩ := f_mw3 (P := P) (N := N) (z := z) hF h38 hwb hw
  obtain ⟨r, hr⟩ := hF.isWord 25209
  refine ⟨gm', ?_, a2, a3⟩
  unfold mw2
  rw [hr, Option.bind_some, hF.must, Option.bind_some]
  exact a1
theorem f_mw1 (hF : Fa gx gm) (h38 : gi gm 0 38 = nI wb) (hwb : wb < 2) (hw : w < 10) : ∃ gm', mw1 (nI (10 * wb + w)) gm = some gm' ∧ Fa gx gm' ∧ Ow (PVm wb w P N z) QTm gm gm' := by
  obtain ⟨gm', a1, a2, a3⟩ := f_w106a (P := P) (N := N) (z := z) hF h38 hwb hw 1
  rw [if_neg (by decide)] at a1
  exact ⟨gm', a1, a2, a3⟩
theorem f_mw0 (hF : Fa gx gm) (h38 : gi gm 0 38 = nI wb) (hwb : wb < 2) (hw : w < 10) : ∃ gm', mw0 (nI (10 * wb + w)) gm = some gm' ∧ Fa gx gm' ∧ Ow (PVm wb w P N z) QTm gm gm' := f_w106 hF h38 hwb hw 1
theorem f_m91 (hF : Fa gx gm) (h38 : gi gm 0 38 = nI wb) (hwb : wb < 2) (hw : w < 10) : ∃ gm', F_X7_readWish_91 1 (nI (10 * wb + w)) gm = some gm' ∧ Fa gx gm' ∧ Ow (PVm wb w P N z) QTm gm gm' := by
  obtain ⟨gm', a1, a2, a3⟩ := f_mw0 (P := P) (N := N) (z := z) hF h38 hwb hw
  obtain ⟨r, hr⟩ := hF.isWord 474147546227
  refine ⟨gm', ?_, a2, a3⟩
  rw [mw_eq1, hr, Option.bind_some, hF.must, Option.bind_some]
  exact a1
theorem s_law (hwb : wb < 2) (hlen : len ≤ 600) (hS : Sy gx gm len tx true t s e) (ht : t = Tk.wrd 4) (hW : dW D < 10) (R : WRD gx gm S b wb D P N z) (hz : z ≤ s) :
    ∃ gx' gm', F_X5_readLaw gx = some gx' ∧ F_X7_readWish_40 1 gm = some gm' ∧ Ow PVx QT gx gx' ∧ Ow (PVm wb (dW D) P N z) QTm gm gm' ∧ (Fa gx' gm' ∨ ∃ t' s' e' D' P' N' z', Sy gx' gm' len tx true t' s' e' ∧ s < s' ∧ z' ≤ s' ∧ dW D' = dW D + 1 ∧ WRD gx' gm' S b wb D' P' N' z') := by
  have R0 := R
  obtain ⟨⟨r1, r2, r3, r4⟩, ⟨r5, r6, r7, r8, r9, r10⟩, r11, r12, r13⟩ := R
  have n16 := r1.r16
  have hse : s < e := hS.2.2.2.2.2.1.2.2.1 (by rw [ht]; simp)
  obtain ⟨gx1, gm1, t1, s1, e1, p1, p2, p3, p4, p5, p6⟩ := s_adv hS
  have pw : ∀ {a : Nat}, 15 ≤ a → a ≤ 20 → PVm wb (dW D) P N z a (10 * wb + dW D) := fun h1 h2 => Or.inr (Or.inr (Or.inr (Or.inl ⟨h1, h2, rfl⟩)))
  have tg1 : TgM gm1 (si gm1 17 (10 * wb + dW D) (-1)) := (TgM.rf gm1).si (Or.inl (by decide)) (by decide)
  have om1 : Ow (PVm wb (dW D) P N z) QTm gm (si gm1 17 (10 * wb + dW D) (-1)) := p6.pvm.si (pw (by decide) (by decide))
  have ox1 : Ow PUx QT gx gx1 := p5.pux
  have m38 : ∀ {g : GM}, Ow (PVm wb (dW D) P N z) QTm gm g → gi g 0 38 = nI wb := fun h => by rw [h.1 _ _ (by unfold PVm; omega)]; exact r3
  have m23 : ∀ {g : GM}, Ow (PVm wb (dW D) P N z) QTm gm g → gi g 0 23 = nI b := fun h => by rw [h.1 _ _ (by unfold PVm; omega)]; exact r2
  -- a fault: how it ends
  have done : ∀ gx2 gm2 gm3 : GM, F_X5_readLaw gx = some gx2 → F_X7_readWish_40 1 gm = some gm3 → Ow PUx QT gx gx2 → Ow (PVm wb (dW D) P N z) QTm gm gm2 → Fa gx2 gm3 → Ow (PVm wb (dW D) P N z) QTm gm2 gm3 → ∃ gx' gm', F_X5_readLaw gx = some gx' ∧ F_X7_readWish_40 1 gm = some gm' ∧ Ow PVx QT gx gx' ∧ Ow (PVm wb (dW D) P N z) QTm gm gm' ∧ (Fa gx' gm' ∨ ∃ t' s' e' D' P' N' z', Sy gx' gm' len tx true t' s' e' ∧ s < s' ∧ z' ≤ s' ∧ dW D' = dW D + 1 ∧ WRD gx' gm' S b wb D' P' N' z') := fun gx2 gm2 gm3 q1 q2 q3 q4 q5 q6 => ⟨gx2, gm3, q1, q2, q3.pvx, q4.tr q6, Or.inl q5⟩
  have eX1 : F_X5_readLaw gx = (F_X4_takeTable_s gx1).bind fun (r_8, g_9) => lw0 r_8 g_9 := by rw [lw_eq, p1, Option.bind_some]
  have eM1 : ∀ x g, F_X7_aTable (si gm1 17 (10 * wb + dW D) (-1)) = some (x, g) → F_X7_readWish_40 1 gm = F_X7_readWish_91 1 (nI (10 * wb + dW D)) (si g 15 (10 * wb + dW D) x) := by
    intro x g hx
    unfold F_X7_readWish_40
    rw [m_good hS.f0m, Option.bind_some, if_neg (by decide), r3, ck_true (inB_nI hwb (by decide)), nI_clamp (by omega), r4, l10, nI_add, lt_def, p2, Option.bind_some, ck_true (inB_nI (by omega) (by decide)), nI_clamp (by omega), lt_def, if_neg (by decide), hx, Option.bind_some]
    dsimp only
    rw [ck_true (inB_nI (by omega) (by decide)), lt_def]
  -- the first table
  obtain ⟨gx2, gm2, htab, v5, v6⟩ := s_tabS (p3.tg (TgX.rf gx1) tg1) (R0.ss ox1 om1) (m23 om1)
  have ox2 := ox1.tr v5.pux
  have om2 : Ow (PVm wb (dW D) P N z) QTm gm gm2 := om1.tr v6.pvm
  rcases htab with ⟨T, T1, v1, v2, t2, s2, e2, v3, v4, v4'⟩ | ⟨v1, v2, hF⟩
  case inr =>
    have om2a : Ow (PVm wb (dW D) P N z) QTm gm (si gm2 15 (10 * wb + dW D) (-1)) := om2.si (pw (by decide) (by decide))
    obtain ⟨gm', a1, a2, a3⟩ := f_m91 (w := dW D) (P := P) (N := N) (z := z) (hF.sim (a := 15) (k := 10 * wb + dW D) (v := -1) (by decide)) (m38 om2a) hwb hW
    exact done gx2 _ gm' (by rw [eX1, v1, Option.bind_some]; exact f_lw0 hF (R0.ss ox2 om2) _) (by rw [eM1 _ _ v2]; exact a1) ox2 om2a a2 a3
  have om2a : Ow (PVm wb (dW D) P N z) QTm gm (si gm2 15 (10 * wb + dW D) (nI (5 * b + T))) := om2.si (pw (by decide) (by decide))
  have tg2 : TgM gm2 (si gm2 15 (10 * wb + dW D) (nI (5 * b + T))) := (TgM.rf gm2).si (Or.inl (by decide)) (by decide)
  have eM2 := eM1 _ _ v2
  rw [v1, Option.bind_some] at eX1
  -- needs
  obtain ⟨gx3, gm3, r, w1, w2, w3, w4, w5, w6⟩ := s_takeW (v3.tg (TgX.rf gx2) tg2) (j := 6) (by decide)
  have w1' : F_X4_take 10 gx2 = some (r, gx3) := w1
  rw [wM_tab.2.2.2.2.2.2.1] at w2
  have ox3 := ox2.tr w5.pux
  have om3 : Ow (PVm wb (dW D) P N z) QTm gm gm3 := om2a.tr w6.pvm
  have eX3 : F_X5_readLaw gx = lw1 (nI T) gx3 := by
    rw [eX1]
    show lw0 (nI T) gx2 = _
    unfold lw0
    rw [w1', Option.bind_some]
  have eM3 : F_X7_readWish_40 1 gm = mw0 (nI (10 * wb + dW D)) gm3 := by
    rw [eM2, mw_eq1, w2, Option.bind_some, w3, Option.bind_some]
  rcases w4 with ⟨_, y1, t3, s3, e3, y2, y3⟩ | ⟨_, _, hF⟩
  case inr =>
    obtain ⟨gm', a1, a2, a3⟩ := f_mw0 (w := dW D) (P := P) (N := N) (z := z) hF (m38 om3) hwb hW
    exact done gx3 gm3 gm' (by rw [eX3]; exact f_lw1 hF (R0.ss ox3 om3) _) (by rw [eM3]; exact a1) ox3 om3 a2 a3
  -- the number
  obtain ⟨gx4, gm4, hneed, u5, u6⟩ := s_need y2
  have ox4 := ox3.tr u5.pux
  have om4 : Ow (PVm wb (dW D) P N z) QTm gm gm4 := om3.tr u6.pvm
  have eM4 : ∀ x, F_X7_howMany gm3 = some (x, gm4) → F_X7_readWish_40 1 gm = mw1 (nI (10 * wb + dW D)) (si gm4 16 (10 * wb + dW D) x) := by
    intro x hx
    rw [eM3]
    unfold mw0
    rw [hx, Option.bind_some]
    dsimp only
    rw [ck_true (inB_nI (by omega) (by decide)), nI_clamp (by omega), lt_def]
  rcases hneed with ⟨k, k1, k2, u1, u2, t4, s4, e4, u3, u4, u4'⟩ | ⟨⟨v, u1, u2⟩, hF⟩
  case inr =>
    have om4a : Ow (PVm wb (dW D) P N z) QTm gm (si gm4 16 (10 * wb + dW D) v) := om4.si (pw (by decide) (by decide))
    obtain ⟨gm', a1, a2, a3⟩ := f_mw1 (w := dW D) (P := P) (N := N) (z := z) (hF.sim (a := 16) (k := 10 * wb + dW D) (v := v) (by decide)) (m38 om4a) hwb hW
    exact done gx4 _ gm' (by rw [eX3]; unfold lw1; rw [u1, Option.bind_some]; exact f_lw2 hF (R0.ss ox4 om4) _ _) (by rw [eM4 _ u2]; exact a1) ox4 om4a a2 a3
  have om4a : Ow (PVm wb (dW D) P N z) QTm gm (si gm4 16 (10 * wb + dW D) (nI k)) := om4.si (pw (by decide) (by decide))
  have tg4 : TgM gm4 (si gm4 16 (10 * wb + dW D) (nI k)) := (TgM.rf gm4).si (Or.inl (by decide)) (by decide)
  have eX4 : F_X5_readLaw gx = lw2 (nI T) (nI k) gx4 := by
    rw [eX3]
    unfold lw1
    rw [u1, Option.bind_some]
  -- the second table
  obtain ⟨gx5, gm5, htab5, i5, i6⟩ := s_tabS (u3.tg (TgX.rf gx4) tg4) (R0.ss ox4 om4a) (m23 om4a)
  have ox5 := ox4.tr i5.pux
  have om5 : Ow (PVm wb (dW D) P N z) QTm gm gm5 := om4a.tr i6.pvm
  have eM5 : ∀ x, F_X7_aTable (si gm4 16 (10 * wb + dW D) (nI k)) = some (x, gm5) → F_X7_readWish_40 1 gm = mw2 (nI (10 * wb + dW D)) (si gm5 17 (10 * wb + dW D) x) := by
    intro x hx
    rw [eM4 _ u2]
    unfold mw1
    rw [hx, Option.bind_some]
    dsimp only
    rw [ck_true (inB_nI (by omega) (by decide)), nI_clamp (by omega), lt_def]
  rcases htab5 with ⟨u, U1, i1, i2, t5, s5, e5, i3, i4, i4'⟩ | ⟨i1, i2, hF⟩
  case inr =>
    have om5a : Ow (PVm wb (dW D) P N z) QTm gm (si gm5 17 (10 * wb + dW D) (-1)) := om5.si (pw (by decide) (by decide))
    obtain ⟨gm', a1, a2, a3⟩ := f_mw2 (w := dW D) (P := P) (N := N) (z := z) (hF.sim (a := 17) (k := 10 * wb + dW D) (v := -1) (by decide)) (m38 om5a) hwb hW
    exact done gx5 _ gm' (by rw [eX4]; unfold lw2; rw [i1, Option.bind_some]; exact f_lw3 hF (R0.ss ox5 om5) _ _ _ (Or.inl rfl)) (by rw [eM5 _ i2]; exact a1) ox5 om5a a2 a3
  have om5a : Ow (PVm wb (dW D) P N z) QTm gm (si gm5 17 (10 * wb + dW D) (nI (5 * b + u))) := om5.si (pw (by decide) (by decide))
  have tg5 : TgM gm5 (si gm5 17 (10 * wb + dW D) (nI (5 * b + u))) := (TgM.rf gm5).si (Or.inl (by decide)) (by decide)
  have eX5 : F_X5_readLaw gx = lw3 (nI T) (nI k) (nI u) gx5 := by
    rw [eX4]
    unfold lw2
    rw [i1, Option.bind_some]
  -- by
  obtain ⟨gx6, gm6, rB, j1, j2, j3, j4, j5, j6⟩ := s_takeW (i3.tg (TgX.rf gx5) tg5) (j := 7) (by decide)
  have j1' : F_X4_take 11 gx5 = some (rB, gx6) := j1
  rw [wM_tab.2.2.2.2.2.2.2.1] at j2
  have ox6 := ox5.tr j5.pux
  have om6 : Ow (PVm wb (dW D) P N z) QTm gm gm6 := om5a.tr j6.pvm
  have ss6 := R0.ss ox6 om6
  have eX6 : F_X5_readLaw gx = lw4 (nI T) (nI k) (nI u) gx6 := by
    rw [eX5]
    unfold lw3
    rw [j1', Option.bind_some]
  have eM6 : F_X7_readWish_40 1 gm = mw3 (nI (10 * wb + dW D)) gm6 := by
    rw [eM5 _ i2]
    unfold mw2
    rw [j2, Option.bind_some, j3, Option.bind_some]
  have g15 : gi gm6 15 (10 * wb + dW D) = nI (5 * b + T) := by
    rw [j6.1 _ _ (fun q => by have := q.1; omega), gi_si, if_neg (by omega), i6.1 _ _ (fun q => by have := q.1; omega), gi_si, if_neg (by omega), u6.1 _ _ (fun q => by have := q.1; omega), w6.1 _ _ (fun q => by have := q.1; omega), gi_same]
  have g16 : gi gm6 16 (10 * wb + dW D) = nI k := by
    rw [j6.1 _ _ (fun q => by have := q.1; omega), gi_si, if_neg (by omega), i6.1 _ _ (fun q => by have := q.1; omega), gi_same]
  have g17 : gi gm6 17 (10 * wb + dW D) = nI (5 * b + u) := by
    rw [j6.1 _ _ (fun q => by have := q.1; omega), gi_same]
  have g14 : gi gm6 14 wb = nI (dW D) := by
    rw [j6.1 _ _ (fun q => by have := q.1; omega), gi_si, if_neg (by omega), i6.1 _ _ (fun q => by have := q.1; omega), gi_si, if_neg (by omega), u6.1 _ _ (fun q => by have := q.1; omega), w6.1 _ _ (fun q => by have := q.1; omega), gi_si, if_neg (by omega), v6.1 _ _ (fun q => by have := q.1; omega), gi_si, if_neg (by omega), p6.1 _ _ (fun q => by have := q.1; omega)]; exact r4
  have g0 : ∀ i, i = 39 ∨ i = 40 ∨ i = 41 → gi gm6 0 i = gi gm 0 i := fun i hi => by
    rw [j6.1 _ _ (fun q => by have := q.2; omega), gi_si, if_neg (by omega), i6.1 _ _ (fun q => by have := q.2; omega), gi_si, if_neg (by omega), u6.1 _ _ (fun q => by have := q.2; omega), w6.1 _ _ (fun q => by have := q.2; omega), gi_si, if_neg (by omega), v6.1 _ _ (fun q => by have := q.2; omega), gi_si, if_neg (by omega), p6.1 _ _ (fun q => by have := q.2; omega)]
  have x42 : gi gx6 42 5 = nI P := by
    rw [j5.1 _ _ (fun q => by have := q.1; omega), i5.1 _ _ (fun q => by have := q.1; omega), u5.1 _ _ (fun q => by have := q.1; omega), w5.1 _ _ (fun q => by have := q.1; omega), v5.1 _ _ (fun q => by have := q.1; omega), p5.1 _ _ (fun q => by have := q.1; omega)]; exact r5
  rcases j4 with ⟨_, y4, t6, s6, e6, y5, y6⟩ | ⟨_, _, hF⟩
  case inr =>
    obtain ⟨gm', a1, a2, a3⟩ := f_mw3 (w := dW D) (P := P) (N := N) (z := z) hF (m38 om6) hwb hW
    exact done gx6 gm6 gm' (by rw [eX6]; exact f_lw4 hF ss6 _ _ _ (Or.inr ⟨u, U1, rfl⟩)) (by rw [eM6]; exact a1) ox6 om6 a2 a3
  rcases Tk.isNam t6 with ⟨wd, v, rfl⟩ | hnn
  case inr =>
    obtain ⟨gx7, gm7, a1, a2, a3, a4, a5⟩ := s_wrong y5
    have ox7 := ox6.tr a4.pux
    have om7 : Ow (PVm wb (dW D) P N z) QTm gm gm7 := om6.tr a5.pvm
    obtain ⟨gm', b1, b2, b3⟩ := f_w159 (w := dW D) (P := P) (N := N) (z := z) a3 (m38 om7) hwb hW 1
    refine done gx7 gm7 gm' ?_ ?_ ox7 om7 b2 b3
    · rw [eX6]
      unfold lw4
      obtain ⟨kk, k1', k2'⟩ := x_cn ss6 U1 (gl gx6 1 8)
      rw [k2', Option.bind_some, lt_def, if_neg (y5.nnam hnn).1]
      unfold F_X5_readLaw_119 F_X4_take
      rw [if_pos y5.f0x, if_neg (y5.nnam hnn).1, a1, Option.bind_some, Option.bind_some]
      dsimp only
      rw [if_pos rfl]
    · rw [eM6]
      unfold mw3 F_X7_readBy F_X7_readBy_19
      rw [m_good y5.f0m, Option.bind_some, if_neg (by decide), if_neg (y5.nnam hnn).2, a2, Option.bind_some, a3.bad, Option.bind_some, if_pos rfl, Option.bind_some]
      exact b1
  obtain ⟨m1, m2, m3, m4, m5⟩ := y5.nam
  have hse6 : s6 < e6 := y5.2.2.2.2.2.1.2.2.1 (by simp)
  have c1 := x_col ss6 U1 m5
  have c2 := m_col ss6 U1 v
  obtain ⟨q1, q2, q3, q4, q5, q6⟩ := ss6.tb U1
  have hle := ff_le (fun c => decide (gl gm6 4 (5 * (5 * b + u) + c) = v)) (sC S u)
  -- no such link
  have bad : (∀ gx7, F_X4_refuse 4 (nI s6) gx6 = some gx7 → Fa gx7 gm6 ∨ True → lw4 (nI T) (nI k) (nI u) gx6 = F_X5_readLaw_119 (nI T) (nI k) (nI u) (cd 0 (ff (fun c => decide (gl gm6 4 (5 * (5 * b + u) + c) = v)) (sC S u) 0)) gx7) → (∀ gm7, F_X7_fails 4 (nI s6) gm6 = some gm7 → F_X7_isGood gm7 = some 0 → F_X7_readBy (nI (10 * wb + dW D)) gm6 = some gm7) → ∃ gx' gm', F_X5_readLaw gx = some gx' ∧ F_X7_readWish_40 1 gm = some gm' ∧ Ow PVx QT gx gx' ∧ Ow (PVm wb (dW D) P N z) QTm gm gm' ∧ (Fa gx' gm' ∨ ∃ t' s' e' D' P' N' z', Sy gx' gm' len tx true t' s' e' ∧ s < s' ∧ z' ≤ s' ∧ dW D' = dW D + 1 ∧ WRD gx' gm' S b wb D' P' N' z') := by
    intro hX hM
    obtain ⟨gx7, gm7, a1, a2, a3, a4, a5⟩ := s_fail y5 (k := 4) (p := s6) (by decide) (by decide)
    have ox7 := ox6.tr a4.pux
    have om7 : Ow (PVm wb (dW D) P N z) QTm gm gm7 := om6.tr a5.pvm
    obtain ⟨gm', b1, b2, b3⟩ := f_w159 (w := dW D) (P := P) (N := N) (z := z) a3 (m38 om7) hwb hW 1
    refine done gx7 gm7 gm' ?_ ?_ ox7 om7 b2 b3
    · rw [eX6, hX gx7 a1 (Or.inr trivial)]
      exact f_119 a3 _ _ _ _
    · rw [eM6]
      unfold mw3
      rw [hM gm7 a2 a3.bad, Option.bind_some]
      exact b1
  rcases hk : ff (fun c => decide (gl gm6 4 (5 * (5 * b + u) + c) = v)) (sC S u) 0 with _ | c
  · rw [hk] at c1 c2 bad
    refine bad (fun gx7 hr _ => ?_) (fun gm7 hr hg => ?_)
    · have hr' : F_X4_refuse 4 (nI s6) gx6 = some gx7 := hr
      unfold lw4
      rw [m3, c1, Option.bind_some, lt_def, if_pos m1, cd0, if_pos rfl]
      unfold F_X5_readLaw_104
      rw [y5.sx, hr', Option.bind_some]
    · have hr' : F_X7_fails 4 (nI s6) gm6 = some gm7 := hr
      unfold F_X7_readBy F_X7_readBy_19 F_X7_readBy_61 F_X7_readBy_70
      rw [m_good y5.f0m, Option.bind_some, if_neg (by decide), if_pos m2, Option.bind_some, if_neg (by decide), ck_true (inB_nI (by omega) (by decide)), nI_clamp (by omega), g17, m4, c2, Option.bind_some, lt_def, cd0, if_pos (by decide), y5.sm, hr', Option.bind_some, hg, Option.bind_some, if_pos rfl]
  · have hc : c < sC S u := by omega
    obtain ⟨u1', u2', u3', u4'⟩ := q6 c hc
    have hle5 : 5 * (5 * b + u) + c < 50 := by omega
    have tS := x_target_s ss6 U1 hc
    have eqT : cd 0 (sL S u c) = nI T ↔ sL S u c = T + 1 := by rw [← cd0S T]; exact cd_inj (by omega) (by omega)
    have eqM : cd (5 * b) (sL S u c) = nI (5 * b + T) ↔ sL S u c = T + 1 := by rw [← cdS (5 * b) T]; exact cd_inj (by omega) (by omega)
    rw [hk] at c1 c2 bad
    rw [cd0S] at c1 bad
    rw [cdS] at c2
    by_cases hl : sL S u c = T + 1
    · -- the link stands
      have eX7 : lw4 (nI T) (nI k) (nI u) gx6 = F_X5_readLaw_119 (nI T) (nI k) (nI u) (nI c) gx6 := by
        unfold lw4
        rw [m3, c1, Option.bind_some, lt_def, if_pos m1, if_neg (nI_ne1 (by omega)), tS, Option.bind_some, if_pos (eqT.mpr hl)]
      have qs : nI (5 * (5 * b + u) + c) - 5 * nI (5 * b + u) = nI c := by rw [l5, nI_sub (by omega)]; congr 1; omega
      have tg6 : TgM gm6 (si gm6 18 (10 * wb + dW D) (nI c)) := (TgM.rf gm6).si (Or.inl (by decide)) (by decide)
      obtain ⟨gx7, gm7, t7, s7, e7, d1, d2, d3, d4, d5, d6⟩ := s_adv (y5.tg (TgX.rf gx6) tg6)
      have om6a : Ow (PVm wb (dW D) P N z) QTm gm (si gm6 18 (10 * wb + dW D) (nI c)) := om6.si (pw (by decide) (by decide))
      have ox7 := ox6.tr d5.pux
      have om7 : Ow (PVm wb (dW D) P N z) QTm gm gm7 := om6a.tr d6.pvm
      have n7 : ∀ a i, ¬ (a = 0 ∧ i ≤ 10) → ¬ (a = 18 ∧ i = 10 * wb + dW D) → gi gm7 a i = gi gm6 a i := fun a i p q => by rw [d6.1 _ _ (fun r => p ⟨r.1, r.2.2⟩), gi_si, if_neg q]
      have c39 : gi gm7 0 39 = nI z := by rw [n7 _ _ (by omega) (by omega), g0 _ (by omega)]; exact r10
      have tg7 : TgM gm7 (si (si gm7 19 (10 * wb + dW D) (nI z)) 20 (10 * wb + dW D) (nI z)) := ((TgM.rf gm7).si (Or.inl (by decide)) (by decide)).si (Or.inl (by decide)) (by decide)
      have om7a : Ow (PVm wb (dW D) P N z) QTm gm (si (si gm7 19 (10 * wb + dW D) (nI z)) 20 (10 * wb + dW D) (nI z)) := (om7.si (pw (by decide) (by decide))).si (pw (by decide) (by decide))
      obtain ⟨gx8, gm8, rC, b1, b2, b3, b4, b5, b6⟩ := s_take (d3.tg (TgX.rf gx7) tg7) (d := 59) (by decide)
      have b1' : F_X4_take 59 gx7 = some (rC, gx8) := b1
      have b2' : F_X7_is 59 (si (si gm7 19 (10 * wb + dW D) (nI z)) 20 (10 * wb + dW D) (nI z)) = some rC := b2
      have ox8 := ox7.tr b5.pux
      have om8 : Ow (PVm wb (dW D) P N z) QTm gm gm8 := om7a.tr b6.pvm
      have n8 : ∀ a i, ¬ (a = 0 ∧ i ≤ 10) → ¬ ((a = 19 ∨ a = 20) ∧ i = 10 * wb + dW D) → gi gm8 a i = gi gm7 a i := fun a i p q => by rw [b6.1 _ _ (fun r => p ⟨r.1, r.2.2⟩), gi_si, if_neg (by omega), gi_si, if_neg (by omega)]
      have e14 : gi gm8 14 wb + 1 = nI (dW D + 1) := by rw [n8 _ _ (by omega) (by omega), n7 _ _ (by omega) (by omega), g14, nI_1]
      have c39' : gi (si gm7 19 (10 * wb + dW D) (nI z)) 0 39 = nI z := by rw [gi_si, if_neg (by omega)]; exact c39
      have eM8 : F_X7_readWish_40 1 gm = some (si gm8 14 wb (nI (dW D + 1))) := by
        rw [eM6]
        unfold mw3 F_X7_readBy F_X7_readBy_19 F_X7_readBy_70
        rw [m_good y5.f0m, Option.bind_some, if_neg (by decide), if_pos m2, Option.bind_some, if_neg (by decide), ck_true (inB_nI (by omega) (by decide)), nI_clamp (by omega), g17, m4, c2, Option.bind_some, lt_def, if_neg (nI_pos (by omega)), ck_true (inB_nI hle5 (by decide)), ck_true (inB_nI (by omega) (by decide)), nI_clamp (by omega), u4', g15, if_pos (eqM.mpr hl), Option.bind_some, if_neg (by decide), ck_true (inB_nI (by omega) (by decide)), ck_true (inB_nI (by omega) (by decide)), qs, lt_def, d2, Option.bind_some, Option.bind_some]
        unfold F_X7_readWish_159 F_X7_readWish_199
        rw [ck_true (inB_nI (by omega) (by decide)), nI_clamp (by omega), c39, lt_def, if_neg (by decide), ck_true (inB_nI (by omega) (by decide)), c39', lt_def, b2', Option.bind_some, b3, Option.bind_some, m38 om8, ck_true (inB_nI hwb (by decide)), ck_true (inB_nI hwb (by decide)), nI_clamp (by omega), e14, lt_def]
      have tg8 : TgM gm8 (si gm8 14 wb (nI (dW D + 1))) := (TgM.rf gm8).si (Or.inl (by decide)) (by decide)
      have om9 : Ow (PVm wb (dW D) P N z) QTm gm (si gm8 14 wb (nI (dW D + 1))) := om8.si (Or.inr (Or.inr (Or.inl ⟨rfl, rfl⟩)))
      have t2' : F_X4_take 2 gx6 = some (1, gx7) := by
        unfold F_X4_take
        rw [if_pos y5.f0x, if_pos m1, d1, Option.bind_some]
      rcases b4 with ⟨rfl, z1, t9, s9, e9, z2, z3⟩ | ⟨rfl, _, hF⟩
      · have hse7 : s7 < e7 := d3.2.2.2.2.2.1.2.2.1 (by rw [z1]; simp)
        have hDX : DX 35 gx8 S D raw 0 := r11.ag (fun a i ha => ox8.1 _ _ (by unfold PUx; omega))
        have hc5 : c < 5 := by omega
        obtain ⟨gx9, f1, f2, f3⟩ := x_addLaw (R0.ss ox8 om8) hDX hW (n := k) T1 U1 hc5
        have nx : ∀ a i, ¬ (35 ≤ a ∧ a ≤ 41) → gi gx9 a i = gi gx8 a i := fun a i q => f3.1 a i q
        have tx9 : TgX gx8 gx9 := fun i => ⟨nx _ _ (by omega), nx _ _ (by omega), f3.2 _ _ (fun q => q), f3.2 _ _ (fun q => q)⟩
        have nm : ∀ a i, ¬ (a = 0 ∧ i ≤ 10) → ¬ (a = 14 ∧ i = wb) → ¬ (18 ≤ a ∧ a ≤ 20 ∧ i = 10 * wb + dW D) → gi (si gm8 14 wb (nI (dW D + 1))) a i = gi gm6 a i := fun a i p q r => by rw [gi_si, if_neg q, n8 _ _ p (by omega), n7 _ _ p (by omega)]
        have q18 : gi (si gm8 14 wb (nI (dW D + 1))) 18 (10 * wb + dW D) = nI c := by rw [gi_si, if_neg (by omega), n8 _ _ (by omega) (by omega), d6.1 _ _ (fun q => by have := q.1; omega), gi_same]
        have hl6 := y5.ln
        have hl7 := d3.ln
        refine ⟨gx9, _, ?_, eM8, ox8.pvx.tr (f3.mono (fun a i q => Or.inr (Or.inl q)) (fun a i q => q.elim)), om9, Or.inr ⟨t9, s9, e9, dAdd D true T k u c 0, P, N, z, z2.tg tx9 tg8, ?_, ?_, rfl, ⟨?_, m23 om9, m38 om9, gi_same⟩, ⟨?_, ?_, ?_, r8, r9, ?_⟩, f2, ?_, ?_⟩⟩
        · rw [eX6, eX7]
          unfold F_X5_readLaw_119
          rw [t2', Option.bind_some]
          dsimp only
          rw [if_neg (by decide), b1', Option.bind_some]
          dsimp only
          rw [if_neg (by decide), f1, Option.bind_some]
        · have := v4; have := y3; have := u4; have := i4; have := y6; have := d4; have := z3; have := p4
          have := p3.2.2.2.2.2.1.1; have := v3.2.2.2.2.2.1.1; have := y2.2.2.2.2.2.1.1; have := u3.2.2.2.2.2.1.1; have := i3.2.2.2.2.2.1.1
          omega
        · have := v4; have := y3; have := u4; have := i4; have := y6; have := d4; have := z3; have := p4
          have := p3.2.2.2.2.2.1.1; have := v3.2.2.2.2.2.1.1; have := y2.2.2.2.2.2.1.1; have := u3.2.2.2.2.2.1.1; have := i3.2.2.2.2.2.1.1
          omega
        · exact (R0.ss ox8 om9).mv (fun a i ha => ⟨nx _ _ (by omega), f3.2 _ _ (fun q => q)⟩) AgM.rf
        · rw [nx _ _ (by omega), b5.1 _ _ (fun q => by have := q.1; omega), d5.1 _ _ (fun q => by have := q.1; omega)]; exact x42
        · rw [nm _ _ (by omega) (by omega) (by omega), g0 _ (by omega)]; exact r6
        · rw [nm _ _ (by omega) (by omega) (by omega), g0 _ (by omega)]; exact r7
        · rw [nm _ _ (by omega) (by omega) (by omega), g0 _ (by omega)]; exact r10
        · exact r12.add hW ⟨T1, k1, k2, Nat.two_pow_pos _, (fun r hr => by rw [Nat.zero_testBit] at hr; cases hr), fun _ => ⟨U1, hc, hl, rfl⟩⟩
        · refine (r13.fr om9 (Nat.le_refl _) r8 (Nat.le_refl _) (by omega) (Nat.le_refl _)).add ⟨?_, ?_, fun _ => ⟨?_, q18⟩, fun h => by cases h⟩
          · rw [nm _ _ (by omega) (by omega) (by omega)]; exact g15
          · rw [nm _ _ (by omega) (by omega) (by omega)]; exact g16
          · rw [nm _ _ (by omega) (by omega) (by omega)]; exact g17
      · refine ⟨gx8, _, ?_, eM8, ox8.pvx, om9, Or.inl (hF.tg (TgX.rf gx8) tg8)⟩
        rw [eX6, eX7]
        unfold F_X5_readLaw_119
        rw [t2', Option.bind_some]
        dsimp only
        rw [if_neg (by decide), b1', Option.bind_some]
        dsimp only
        rw [if_pos rfl]
    · refine bad (fun gx7 hr _ => ?_) (fun gm7 hr hg => ?_)
      · have hr' : F_X4_refuse 4 (nI s6) gx6 = some gx7 := hr
        unfold lw4
        rw [m3, c1, Option.bind_some, lt_def, if_pos m1, if_neg (nI_ne1 (by omega)), tS, Option.bind_some, if_neg (fun q => hl (eqT.mp q))]
        unfold F_X5_readLaw_104
        rw [y5.sx, hr', Option.bind_some]
      · have hr' : F_X7_fails 4 (nI s6) gm6 = some gm7 := hr
        unfold F_X7_readBy F_X7_readBy_19 F_X7_readBy_61 F_X7_readBy_70
        rw [m_good y5.f0m, Option.bind_some, if_neg (by decide), if_pos m2, Option.bind_some, if_neg (by decide), ck_true (inB_nI (by omega) (by decide)), nI_clamp (by omega), g17, m4, c2, Option.bind_some, lt_def, if_neg (nI_pos (by omega)), ck_true (inB_nI hle5 (by decide)), ck_true (inB_nI (by omega) (by decide)), nI_clamp (by omega), u4', g15, if_neg (fun q => hl (eqM.mp q)), y5.sm, hr', Option.bind_some, hg, Option.bind_some, if_pos rfl]
end LAW
