/-! a wish, whole -/
section WISH2
variable {gx gm : GM} {len : Nat} {tx : Nat → Nat} {t : Tk} {s e b wb P N z : Nat} {S : St} {D : Dm}
theorem WRD.ss (h : WRD gx gm S b wb D P N z) {gx' gm' : GM} (hx : Ow PUx QT gx gx') (hm : Ow (PVm wb (dW D) P N z) QTm gm gm') : SS 6 b gx' gm' S := h.1.1.mv (fun a i ha => ⟨hx.1 _ _ (by unfold PUx; omega), hx.2 _ _ (by unfold QT; omega)⟩) (fun a i hq => ⟨hm.1 _ _ (by unfold PVm; unfold BKm at hq; omega), hm.2 _ _ (by unfold QTm; unfold BKm at hq; omega)⟩)
theorem s_wish (hwb : wb < 2) (hlen : len ≤ 600) (hS : Sy gx gm len tx true t s e) (ht : t = Tk.wrd 3) (hW : dW D < 10) (R : WRD gx gm S b wb D P N z) (hz : z ≤ s) :
    ∃ gx' gm', F_X5_readWish gx = some gx' ∧ F_X7_readWish_40 0 gm = some gm' ∧ Ow PVx QT gx gx' ∧ Ow (PVm wb (dW D) P N z) QTm gm gm' ∧ (Fa gx' gm' ∨ ∃ t' s' e' D' P' N' z', Sy gx' gm' len tx true t' s' e' ∧ s < s' ∧ z' ≤ s' ∧ dW D' = dW D + 1 ∧ WRD gx' gm' S b wb D' P' N' z') := by
  have R0 := R
  obtain ⟨⟨r1, r2, r3, r4⟩, ⟨r5, r6, r7, r8, r9, r10⟩, r11, r12, r13⟩ := R
  have n16 := r1.r16
  have hse : s < e := hS.2.2.2.2.2.1.2.2.1 (by rw [ht]; simp)
  obtain ⟨gx1, gm1, t1, s1, e1, p1, p2, p3, p4, p5, p6⟩ := s_adv hS
  have tg1 : TgM gm1 (si gm1 17 (10 * wb + dW D) (-1)) := (TgM.rf gm1).si (Or.inl (by decide)) (by decide)
  have ow1 : Ow (PVm wb (dW D) P N z) QTm gm (si gm1 17 (10 * wb + dW D) (-1)) := p6.pvm.si (Or.inr (Or.inr (Or.inr (Or.inl ⟨by decide, by decide, rfl⟩))))
  have eM1 : F_X7_readWish_40 0 gm = F_X7_readWish_106 0 (nI (10 * wb + dW D)) (si gm1 17 (10 * wb + dW D) (-1)) := by
    unfold F_X7_readWish_40 F_X7_readWish_91
    rw [m_good hS.f0m, Option.bind_some, if_neg (by decide), r3, ck_true (inB_nI hwb (by decide)), nI_clamp (by omega), r4, l10, nI_add, lt_def, p2, Option.bind_some, ck_true (inB_nI (by omega) (by decide)), nI_clamp (by omega), lt_def, if_pos rfl, if_pos rfl]
  have eX1 : F_X5_readWish gx = (F_X5_readNeed gx1).bind fun (r_5, g_6) => lt r_5 fun x1_7 => (F_X4_takeTable_s g_6).bind fun (r_8, g_9) => lt (si g_9 42 6 r_8) fun g_10 => if (gi g_10 1 9) = 0 then (F_X2_rowsOf_s (gi g_10 42 6) g_10).bind fun r_11 => lt r_11 fun x2_12 => if (gi g_10 1 5) = 9 then (F_X4_advance g_10).bind fun g_13 => (F_X5_readEither 0 g_13).bind fun (r_14, g_15) => lt (x2_12 &&& r_14) fun x2_16 => F_X5_readWish_77 x1_7 x2_16 g_15 else F_X5_readWish_77 x1_7 x2_12 g_10 else some g_10 := by
    unfold F_X5_readWish
    rw [p1, Option.bind_some]
  have m38 : ∀ {g : GM}, Ow (PVm wb (dW D) P N z) QTm gm g → gi g 0 38 = nI wb := fun h => by rw [h.1 _ _ (by unfold PVm; omega)]; exact r3
  have m23 : ∀ {g : GM}, Ow (PVm wb (dW D) P N z) QTm gm g → gi g 0 23 = nI b := fun h => by rw [h.1 _ _ (by unfold PVm; omega)]; exact r2
  -- a fault before the table is known
  have early : ∀ gx2 gm2 v, Fa gx2 gm2 → Ow PUx QT gx gx2 → Ow (PVm wb (dW D) P N z) QTm gm gm2 → F_X5_readNeed gx1 = some (v, gx2) → (∃ gm3, F_X7_readWish_40 0 gm = some gm3 ∧ Fa gx2 gm3 ∧ Ow (PVm wb (dW D) P N z) QTm gm gm3) → ∃ gx' gm', F_X5_readWish gx = some gx' ∧ F_X7_readWish_40 0 gm = some gm' ∧ Ow PVx QT gx gx' ∧ Ow (PVm wb (dW D) P N z) QTm gm gm' ∧ Fa gx' gm' := by
    intro gx2 gm2 v hF hx hm hn hM
    obtain ⟨gm3, q1, q2, q3⟩ := hM
    refine ⟨si gx2 42 6 (-1), gm3, ?_, q1, (hx.si (Or.inr (Or.inl ⟨rfl, by decide, by decide⟩))).pvx, q3, q2.tg ((TgX.rf gx2).si (by decide) (by decide)) (TgM.rf gm3)⟩
    have n9 : ¬ gi (si gx2 42 6 (-1)) 1 9 = 0 := by rw [gi_si, if_neg (by decide)]; exact hF.nx
    rw [eX1, hn, Option.bind_some]
    dsimp only
    rw [lt_def, (f_tabS hF (R0.ss hx hm)).1, Option.bind_some]
    dsimp only
    rw [lt_def, if_neg n9]
  obtain ⟨gx2, gm2, hneed, u5, u6⟩ := s_need (p3.tg (TgX.rf gx1) tg1)
  have ox2 : Ow PUx QT gx gx2 := p5.pux.tr u5.pux
  have om2 : Ow (PVm wb (dW D) P N z) QTm gm gm2 := ow1.tr u6.pvm
  rcases hneed with ⟨k, k1, k2, u1, u2, t2, s2, e2, u3, u4, u4'⟩ | ⟨⟨v, u1, u2⟩, hF⟩
  · -- the number stands
    have tg2 : TgM gm2 (si gm2 16 (10 * wb + dW D) (nI k)) := (TgM.rf gm2).si (Or.inl (by decide)) (by decide)
    have om2a : Ow (PVm wb (dW D) P N z) QTm gm (si gm2 16 (10 * wb + dW D) (nI k)) := om2.si (Or.inr (Or.inr (Or.inr (Or.inl ⟨by decide, by decide, rfl⟩))))
    have hS2 := u3.tg (TgX.rf gx2) tg2
    have ss2 := R0.ss ox2 om2a
    obtain ⟨gx3, gm3, htab, v5, v6⟩ := s_tabS hS2 ss2 (m23 om2a)
    have ox3 : Ow PUx QT gx gx3 := ox2.tr v5.pux
    have om3 : Ow (PVm wb (dW D) P N z) QTm gm gm3 := om2a.tr v6.pvm
    have eM2 : ∀ x g, F_X7_aTable (si gm2 16 (10 * wb + dW D) (nI k)) = some (x, g) → F_X7_readWish_40 0 gm = F_X7_readWish_159 0 (nI (10 * wb + dW D)) (si g 15 (10 * wb + dW D) x) := by
      intro x g hx
      rw [eM1]
      unfold F_X7_readWish_106
      rw [u2, Option.bind_some]
      dsimp only
      rw [ck_true (inB_nI (by omega) (by decide)), nI_clamp (by omega), lt_def, if_pos rfl, hx, Option.bind_some]
      dsimp only
      rw [ck_true (inB_nI (by omega) (by decide)), lt_def]
    rcases htab with ⟨T, T1, v1, v2, t3, s3, e3, v3, v4, v4'⟩ | ⟨v1, v2, hF⟩
    · -- the table stands
      have tg3 : TgM gm3 (si (si gm3 15 (10 * wb + dW D) (nI (5 * b + T))) 19 (10 * wb + dW D) (nI z)) := ((TgM.rf gm3).si (Or.inl (by decide)) (by decide)).si (Or.inl (by decide)) (by decide)
      have tx3 : TgX gx3 (si gx3 42 6 (nI T)) := (TgX.rf gx3).si (by decide) (by decide)
      have ox3a : Ow PUx QT gx (si gx3 42 6 (nI T)) := ox3.si (Or.inr (Or.inl ⟨rfl, by decide, by decide⟩))
      have om3a : Ow (PVm wb (dW D) P N z) QTm gm (si (si gm3 15 (10 * wb + dW D) (nI (5 * b + T))) 19 (10 * wb + dW D) (nI z)) := (om3.si (Or.inr (Or.inr (Or.inr (Or.inl ⟨by decide, by decide, rfl⟩))))).si (Or.inr (Or.inr (Or.inr (Or.inl ⟨by decide, by decide, rfl⟩))))
      have hS3 := v3.tg tx3 tg3
      have ss3 := R0.ss ox3a om3a
      have c39 : gi (si gm3 15 (10 * wb + dW D) (nI (5 * b + T))) 0 39 = nI z := by
        rw [gi_si, if_neg (by omega), v6.1 _ _ (fun q => by have := q.2; omega), gi_si, if_neg (by omega), u6.1 _ _ (fun q => by have := q.2; omega), gi_si, if_neg (by omega), p6.1 _ _ (fun q => by have := q.2; omega)]; exact r10
      have c40 : ∀ i, i = 39 ∨ i = 40 ∨ i = 41 → gi (si (si gm3 15 (10 * wb + dW D) (nI (5 * b + T))) 19 (10 * wb + dW D) (nI z)) 0 i = gi gm 0 i := fun i hi => by
        rw [gi_si, if_neg (by omega), gi_si, if_neg (by omega), v6.1 _ _ (fun q => by have := q.2; omega), gi_si, if_neg (by omega), u6.1 _ _ (fun q => by have := q.2; omega), gi_si, if_neg (by omega), p6.1 _ _ (fun q => by have := q.2; omega)]
      have c425 : gi (si gx3 42 6 (nI T)) 42 5 = nI P := by
        rw [gi_si, if_neg (by omega), v5.1 _ _ (fun q => by have := q.1; omega), u5.1 _ _ (fun q => by have := q.1; omega), p5.1 _ _ (fun q => by have := q.1; omega)]; exact r5
      have c16 : gi (si (si gm3 15 (10 * wb + dW D) (nI (5 * b + T))) 19 (10 * wb + dW D) (nI z)) 16 (10 * wb + dW D) = nI k := by
        rw [gi_si, if_neg (by omega), gi_si, if_neg (by omega), v6.1 _ _ (fun q => by have := q.1; omega), gi_same]
      have c17 : gi (si (si gm3 15 (10 * wb + dW D) (nI (5 * b + T))) 19 (10 * wb + dW D) (nI z)) 17 (10 * wb + dW D) = -1 := by
        rw [gi_si, if_neg (by omega), gi_si, if_neg (by omega), v6.1 _ _ (fun q => by have := q.1; omega), gi_si, if_neg (by omega), u6.1 _ _ (fun q => by have := q.1; omega), gi_same]
      have c15 : gi (si (si gm3 15 (10 * wb + dW D) (nI (5 * b + T))) 19 (10 * wb + dW D) (nI z)) 15 (10 * wb + dW D) = nI (5 * b + T) := by
        rw [gi_si, if_neg (by omega), gi_same]
      have c19 : gi (si (si gm3 15 (10 * wb + dW D) (nI (5 * b + T))) 19 (10 * wb + dW D) (nI z)) 19 (10 * wb + dW D) = nI z := gi_same
      have eM3 := eM2 _ _ v2
      have hDX3 : ∀ {g : GM}, Ow PUx QT gx g → DX 35 g S D raw 0 := fun h => r11.ag (fun a i ha => h.1 _ _ (by unfold PUx; omega))
      -- from here on in both cases
      have last : ∀ gx5 gm5 t5 s5 e5 P' N' z' mr l (st : List Fn), Sy gx5 gm5 len tx true t5 s5 e5 → s3 ≤ s5 → Ow PUx QT gx gx5 → Ow (PVm wb (dW D) P N z) QTm gm gm5 → (gi gx5 42 6 = nI T ∧ gi gx5 42 5 = nI P' ∧ gi gm5 0 40 = nI P' ∧ gi gm5 0 41 = nI N' ∧ P' ≤ 40 ∧ N' ≤ 4 * P' ∧ P ≤ P' ∧ N ≤ N') → (gi gm5 0 39 = nI z' ∧ z ≤ z' ∧ z' ≤ s5) → (gi gm5 14 wb = nI (dW D) ∧ gi gm5 15 (10 * wb + dW D) = nI (5 * b + T) ∧ gi gm5 16 (10 * wb + dW D) = nI k ∧ gi gm5 17 (10 * wb + dW D) = -1 ∧ gi gm5 19 (10 * wb + dW D) = nI z) → Pg gm5 wb S T P' N' l z z' → ((rn l [] = some [] ∧ ∀ r, r < sR S → sB S r = T → mr.testBit r = true) ∨ ∃ f, rn l [] = some [f] ∧ ∀ r, r < sR S → sB S r = T → mr.testBit r = f r) → mr < 2 ^ sR S → (∀ r, mr.testBit r = true → sB S r = T) → ∃ gx' gm', F_X5_readWish_77 (nI k) (nI mr) gx5 = some gx' ∧ F_X7_readWish_199 (nI (10 * wb + dW D)) gm5 = some gm' ∧ Ow PVx QT gx gx' ∧ Ow (PVm wb (dW D) P N z) QTm gm gm' ∧ (Fa gx' gm' ∨ ∃ t' s' e' D' P' N' z', Sy gx' gm' len tx true t' s' e' ∧ s < s' ∧ z' ≤ s' ∧ dW D' = dW D + 1 ∧ WRD gx' gm' S b wb D' P' N' z') := by
        intro gx5 gm5 t5 s5 e5 P' N' z' mr l st hS5 hs5 ox5 om5 hA hB hC hPg hl hmr hmT
        obtain ⟨a1, a2, a3, a4, a5, a6, a7, a8⟩ := hA
        obtain ⟨b1, b2, b3⟩ := hB
        obtain ⟨d1, d2, d3, d4, d5⟩ := hC
        have tg5 : TgM gm5 (si gm5 20 (10 * wb + dW D) (nI z')) := (TgM.rf gm5).si (Or.inl (by decide)) (by decide)
        have om5a : Ow (PVm wb (dW D) P N z) QTm gm (si gm5 20 (10 * wb + dW D) (nI z')) := om5.si (Or.inr (Or.inr (Or.inr (Or.inl ⟨by decide, by decide, rfl⟩))))
        obtain ⟨gx6, gm6, r, w1, w2, w3, w4, w5, w6⟩ := s_take (hS5.tg (TgX.rf gx5) tg5) (d := 59) (by decide)
        have w1' : F_X4_take 59 gx5 = some (r, gx6) := w1
        have w2' : F_X7_is 59 (si gm5 20 (10 * wb + dW D) (nI z')) = some r := w2
        have om6 : Ow (PVm wb (dW D) P N z) QTm gm gm6 := om5a.tr w6.pvm
        have ox6 : Ow PUx QT gx gx6 := ox5.tr w5.pux
        have e14 : gi gm6 14 wb = nI (dW D) := by rw [w6.1 _ _ (fun q => by have := q.1; omega), gi_si, if_neg (by omega)]; exact d1
        have e14' : gi gm6 14 wb + 1 = nI (dW D + 1) := by rw [e14, nI_1]
        have eM : F_X7_readWish_199 (nI (10 * wb + dW D)) gm5 = some (si gm6 14 wb (nI (dW D + 1))) := by
          unfold F_X7_readWish_199
          rw [ck_true (inB_nI (by omega) (by decide)), nI_clamp (by omega), b1, lt_def, w2', Option.bind_some, w3, Option.bind_some, m38 om6, ck_true (inB_nI hwb (by decide)), ck_true (inB_nI hwb (by decide)), nI_clamp (by omega), e14', lt_def]
        have om7 : Ow (PVm wb (dW D) P N z) QTm gm (si gm6 14 wb (nI (dW D + 1))) := om6.si (Or.inr (Or.inr (Or.inl ⟨rfl, rfl⟩)))
        have tg6 : TgM gm6 (si gm6 14 wb (nI (dW D + 1))) := (TgM.rf gm6).si (Or.inl (by decide)) (by decide)
        rcases w4 with ⟨rfl, y1, t7, s7, e7, y2, y3⟩ | ⟨rfl, _, hF⟩
        · have hse5 : s5 < e5 := hS5.2.2.2.2.2.1.2.2.1 (by rw [y1]; simp)
          obtain ⟨gx7, z1, z2, z3⟩ := x_addWish (hDX3 ox6) hW (T := T) (n := k) (f := mr)
          have g426 : gi gx6 42 6 = nI T := by rw [w5.1 _ _ (fun q => by have := q.1; omega)]; exact a1
          have nx : ∀ a i, ¬ (35 ≤ a ∧ a ≤ 41) → gi gx7 a i = gi gx6 a i := fun a i q => z3.1 a i q
          have tx7 : TgX gx6 gx7 := fun i => ⟨nx _ _ (by omega), nx _ _ (by omega), z3.2 _ _ (fun q => q), z3.2 _ _ (fun q => q)⟩
          have nm : ∀ a i, ¬ (a = 0 ∧ i ≤ 10) → ¬ (a = 14 ∧ i = wb) → ¬ (a = 20 ∧ i = 10 * wb + dW D) → gi (si gm6 14 wb (nI (dW D + 1))) a i = gi gm5 a i := fun a i q1 q2 q3 => by rw [gi_si, if_neg q2, w6.1 _ _ (fun r => q1 ⟨r.1, r.2.2⟩), gi_si, if_neg q3]
          have q20 : gi (si gm6 14 wb (nI (dW D + 1))) 20 (10 * wb + dW D) = nI z' := by rw [gi_si, if_neg (by omega), w6.1 _ _ (fun q => by have := q.1; omega), gi_same]
          have hl5 := hS5.ln
          refine ⟨gx7, _, ?_, eM, (ox6.pvx).tr (z3.mono (fun a i q => Or.inr (Or.inl q)) (fun a i q => q.elim)), om7, Or.inr ⟨t7, s7, e7, dAdd D false T k 0 0 mr, P', N', z', y2.tg tx7 tg6, by omega, by omega, rfl, ⟨?_, ?_, ?_, ?_⟩, ⟨?_, ?_, ?_, a5, a6, ?_⟩, z2, ?_, ?_⟩⟩
          · unfold F_X5_readWish_77
            rw [w1', Option.bind_some]
            dsimp only
            rw [if_neg (by decide), g426, z1, Option.bind_some]
          · exact (R0.ss ox6 om7).mv (fun a i ha => ⟨nx _ _ (by omega), z3.2 _ _ (fun q => q)⟩) AgM.rf
          · exact m23 om7
          · exact m38 om7
          · exact gi_same
          · rw [nx _ _ (by omega), w5.1 _ _ (fun q => by have := q.1; omega)]; exact a2
          · rw [nm _ _ (by omega) (by omega) (by omega)]; exact a3
          · rw [nm _ _ (by omega) (by omega) (by omega)]; exact a4
          · rw [nm _ _ (by omega) (by omega) (by omega)]; exact b1
          · exact r12.add hW ⟨T1, k1, k2, hmr, hmT, fun h => by cases h⟩
          · refine (r13.fr om7 a7 a5 a8 (by omega) b2).add ⟨?_, ?_, (fun h => by cases h), fun _ => ⟨?_, z, z', ?_, q20, Nat.le_refl _, by omega, l, ?_, hl⟩⟩
            · rw [nm _ _ (by omega) (by omega) (by omega)]; exact d2
            · rw [nm _ _ (by omega) (by omega) (by omega)]; exact d3
            · rw [nm _ _ (by omega) (by omega) (by omega)]; exact d4
            · rw [nm _ _ (by omega) (by omega) (by omega)]; exact d5
            · exact Pg.ag (zz := z') (fun i _ => ⟨nm _ _ (by omega) (by omega) (by omega), nm _ _ (by omega) (by omega) (by omega)⟩) (fun i _ => ⟨nm _ _ (by omega) (by omega) (by omega), nm _ _ (by omega) (by omega) (by omega)⟩) (fun i _ => nm _ _ (by omega) (by omega) (by omega)) (Nat.le_refl _) a5 (Nat.le_refl _) (by omega) (Nat.le_refl _) hPg
        · refine ⟨gx6, _, ?_, eM, ox6.pvx, om7, Or.inl (hF.tg (TgX.rf gx6) tg6)⟩
          unfold F_X5_readWish_77
          rw [w1', Option.bind_some]
          dsimp only
          rw [if_pos rfl]
      have eX3 : F_X5_readWish gx = if (gi (si gx3 42 6 (nI T)) 1 5) = 9 then (F_X4_advance (si gx3 42 6 (nI T))).bind fun g_13 => (F_X5_readEither 0 g_13).bind fun (r_14, g_15) => lt (nI (bs (fun r => decide (sB S r = T)) (sR S)) &&& r_14) fun x2_16 => F_X5_readWish_77 (nI k) x2_16 g_15 else F_X5_readWish_77 (nI k) (nI (bs (fun r => decide (sB S r = T)) (sR S))) (si gx3 42 6 (nI T)) := by
        have n9 : gi (si gx3 42 6 (nI T)) 1 9 = 0 := hS3.f0x
        rw [eX1, u1, Option.bind_some]
        dsimp only
        rw [lt_def, v1, Option.bind_some]
        dsimp only
        rw [lt_def, if_pos n9, gi_same, x_rowsOf ss3 (by omega), Option.bind_some, lt_def]
      have iw := m_isWord hS3 (j := 5) (by decide)
      rw [wM_tab.2.2.2.2.2.1] at iw
      have k9 : gi (si gx3 42 6 (nI T)) 1 5 = 9 ↔ t3 = Tk.wrd 5 := by rw [hS3.kx]; exact k_wrd hS3.dx (j := 5) (by decide)
      have rows : ∀ r, (bs (fun r => decide (sB S r = T)) (sR S)).testBit r = (decide (r < sR S) && decide (sB S r = T)) := fun r => bs_bit _ _ _
      have m14 : ∀ {g : GM}, Ow PTm QTm (si (si gm3 15 (10 * wb + dW D) (nI (5 * b + T))) 19 (10 * wb + dW D) (nI z)) g → gi g 14 wb = nI (dW D) := fun h => by
        rw [h.1 _ _ (fun q => by have := q.1; omega), gi_si, if_neg (by omega), gi_si, if_neg (by omega), v6.1 _ _ (fun q => by have := q.1; omega), gi_si, if_neg (by omega), u6.1 _ _ (fun q => by have := q.1; omega), gi_si, if_neg (by omega), p6.1 _ _ (fun q => by have := q.1; omega)]; exact r4
      by_cases cw : t3 = Tk.wrd 5
      · -- where
        have hse3 : s3 < e3 := v3.2.2.2.2.2.1.2.2.1 (by rw [cw]; simp)
        obtain ⟨gx4, gm4, t4, s4, e4, y1, y2, y3, y4, y5, y6⟩ := s_adv hS3
        have ox4 := ox3a.tr y5.pux
        have om4 : Ow (PVm wb (dW D) P N z) QTm gm gm4 := om3a.tr y6.pvm
        have n4 : ∀ a i, ¬ (a = 0 ∧ i ≤ 10) → gi gm4 a i = gi (si (si gm3 15 (10 * wb + dW D) (nI (5 * b + T))) 19 (10 * wb + dW D) (nI z)) a i := fun a i q => y6.1 a i (fun r => q ⟨r.1, r.2.2⟩)
        obtain ⟨gx5, gm5, r, w1, w2, w3, w4, w5⟩ := s_e (P := P) (N := N) (z := z) T1 hwb hW hlen y3 (R0.ss ox4 om4) (m23 om4) (by rw [n4 _ _ (by omega)]; exact c15) (by rw [y5.1 _ _ (fun q => by have := q.1; omega), gi_same]) (m38 om4) (by rw [y5.1 _ _ (fun q => by have := q.1; omega)]; exact c425) (by rw [n4 _ _ (by omega), c40 _ (by omega)]; exact r6) (by rw [n4 _ _ (by omega), c40 _ (by omega)]; exact r7) r8 r9 (by rw [n4 _ _ (by omega), c40 _ (by omega)]; exact r10) (by omega)
        have ox5 := ox4.tr w3.pux'
        have om5 : Ow (PVm wb (dW D) P N z) QTm gm gm5 := om4.tr w4.pvm'
        have eM4 : F_X7_readWish_40 0 gm = F_X7_readWish_199 (nI (10 * wb + dW D)) gm5 := by
          rw [eM3]
          unfold F_X7_readWish_159
          rw [ck_true (inB_nI (by omega) (by decide)), nI_clamp (by omega), c39, lt_def, if_pos rfl, m_good hS3.f0m, Option.bind_some, if_neg (by decide), iw.1 cw, Option.bind_some, if_neg (by decide), y2, Option.bind_some, w2, Option.bind_some]
        rw [eX3, if_pos (k9.mpr cw), y1, Option.bind_some, w1, Option.bind_some]
        dsimp only
        rw [lt_def, eM4]
        rcases w5 with hF | ⟨t', s', e', P', N', z', mr, f, l, x1, x2, x3, x4, x5, x6, x7, x8⟩
        · obtain ⟨gm', a1, a2, a3⟩ := f_w199 (w := dW D) (P := P) (N := N) (z := z) hF (m38 om5) hwb hW
          refine ⟨gx5, gm', ?_, a1, ox5.pvx, om5.tr a3, Or.inl a2⟩
          unfold F_X5_readWish_77
          rw [hF.take, Option.bind_some]
          dsimp only
          rw [if_pos rfl]
        · have n5 : ∀ a i, 14 ≤ a → a ≤ 20 → gi gm5 a i = gi gm4 a i := fun a i q1 q2 => w4.1 _ _ (by unfold PEm; omega)
          have hl4 := y3.ln
          subst x7
          rw [nI_and]
          refine last gx5 gm5 t' s' e' P' N' z' (bs (fun r => decide (sB S r = T)) (sR S) &&& mr) l [f] x1 (by omega) ox5 om5 ⟨?_, x3.1, x3.2.1, x3.2.2.1, x3.2.2.2.1, x3.2.2.2.2.1, x3.2.2.2.2.2.1, x3.2.2.2.2.2.2⟩ x4 ⟨?_, ?_, ?_, ?_, ?_⟩ x5 (Or.inr ⟨f, x6, fun r hr hB => ?_⟩) ?_ (fun r hr => ?_)
          · rw [w3.1 _ _ (by unfold PMx; omega), y5.1 _ _ (fun q => by have := q.1; omega), gi_same]
          · rw [n5 _ _ (by decide) (by decide)]; exact m14 y6
          · rw [n5 _ _ (by decide) (by decide), n4 _ _ (by omega)]; exact c15
          · rw [n5 _ _ (by decide) (by decide), n4 _ _ (by omega)]; exact c16
          · rw [n5 _ _ (by decide) (by decide), n4 _ _ (by omega)]; exact c17
          · rw [n5 _ _ (by decide) (by decide), n4 _ _ (by omega)]; exact c19
          · rw [Nat.testBit_and, rows, x8 r hr hB]; simp [hr, hB]
          · exact Nat.lt_of_le_of_lt Nat.and_le_left (bs_lt _ _)
          · rw [Nat.testBit_and, rows] at hr
            simp at hr
            exact hr.1.2
      · have eM4 : F_X7_readWish_40 0 gm = F_X7_readWish_199 (nI (10 * wb + dW D)) (si (si gm3 15 (10 * wb + dW D) (nI (5 * b + T))) 19 (10 * wb + dW D) (nI z)) := by
          rw [eM3]
          unfold F_X7_readWish_159
          rw [ck_true (inB_nI (by omega) (by decide)), nI_clamp (by omega), c39, lt_def, if_pos rfl, m_good hS3.f0m, Option.bind_some, if_neg (by decide), iw.2 cw, Option.bind_some, if_pos rfl]
        rw [eX3, if_neg (fun q => cw (k9.mp q)), eM4]
        have hl3 := v3.ln
        refine last _ _ t3 s3 e3 P N z (bs (fun r => decide (sB S r = T)) (sR S)) [] [] hS3 (Nat.le_refl _) ox3a om3a ⟨gi_same, c425, by rw [c40 _ (by omega)]; exact r6, by rw [c40 _ (by omega)]; exact r7, r8, r9, Nat.le_refl _, Nat.le_refl _⟩ ⟨by rw [c40 _ (by omega)]; exact r10, Nat.le_refl _, by omega⟩ ⟨m14 (Ow.rf _), c15, c16, c17, c19⟩ rfl (Or.inl ⟨rfl, fun r hr hB => ?_⟩) (bs_lt _ _) (fun r hr => ?_)
        · rw [rows]; simp [hr, hB]
        · rw [rows] at hr
          simp at hr
          exact hr.2
    · -- no such table
      have hFa : Fa gx3 (si gm3 15 (10 * wb + dW D) (-1)) := hF.sim (by decide)
      have om3b : Ow (PVm wb (dW D) P N z) QTm gm (si gm3 15 (10 * wb + dW D) (-1)) := om3.si (Or.inr (Or.inr (Or.inr (Or.inl ⟨by decide, by decide, rfl⟩))))
      obtain ⟨gm', a1, a2, a3⟩ := f_w159 (w := dW D) (P := P) (N := N) (z := z) hFa (m38 om3b) hwb hW 0
      have n9 : ¬ gi (si gx3 42 6 (-1)) 1 9 = 0 := by rw [gi_si, if_neg (by decide)]; exact hF.nx
      refine ⟨si gx3 42 6 (-1), gm', ?_, by rw [eM2 _ _ v2]; exact a1, (ox3.si (Or.inr (Or.inl ⟨rfl, by decide, by decide⟩))).pvx, om3b.tr a3, Or.inl (a2.tg ((TgX.rf gx3).si (by decide) (by decide)) (TgM.rf gm'))⟩
      rw [eX1, u1, Option.bind_some]
      dsimp only
      rw [lt_def, v1, Option.bind_some]
      dsimp only
      rw [lt_def, if_neg n9]
  · obtain ⟨gm3, a1, a2, a3⟩ := f_w106a (w := dW D) (P := P) (N := N) (z := z) (hF.sim (a := 16) (k := 10 * wb + dW D) (v := v) (by decide)) (m38 (om2.si (Or.inr (Or.inr (Or.inr (Or.inl ⟨by decide, by decide, rfl⟩)))))) hwb hW 0
    obtain ⟨gx', gm', q1, q2, q3, q4, q5⟩ := early gx2 gm2 0 hF ox2 om2 u1 ⟨gm3, by
      rw [eM1]
      unfold F_X7_readWish_106
      rw [u2, Option.bind_some]
      dsimp only
      rw [ck_true (inB_nI (by omega) (by decide)), nI_clamp (by omega), lt_def]
      rw [nI_clamp (by omega)] at a1
      exact a1, a2, (om2.si (Or.inr (Or.inr (Or.inr (Or.inl ⟨by decide, by decide, rfl⟩))))).tr a3⟩
    exact ⟨gx', gm', q1, q2, q3, q4, Or.inl q5⟩
end WISH2
