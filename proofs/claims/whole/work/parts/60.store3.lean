/-! store(), whole -/
theorem zi_gi (g : GM) (n a b : Nat) : gi (zi g n) a b = if a = n then 0 else gi g a b := rfl
theorem zi_gl (g : GM) (n a b : Nat) : gl (zi g n) a b = if a = n then 0 else gl g a b := rfl
def PFx (a i : Nat) : Prop := (a = 1 ∧ 2 ≤ i ∧ i ≤ 10) ∨ (17 ≤ a ∧ a ≤ 27) ∨ a = 42
def QFx (a i : Nat) : Prop := (a = 1 ∧ i = 8) ∨ (17 ≤ a ∧ a ≤ 27) ∨ a = 42
def PFm (b a i : Nat) : Prop := (a = 0 ∧ ((2 ≤ i ∧ i ≤ 11) ∨ i = 24)) ∨ a = 2 ∨ BKm b a i
def QFm (b a i : Nat) : Prop := (a = 0 ∧ i = 10) ∨ BKm b a i
def S00 : St := ((0, 0), (fun _ => 0, fun _ => 0, fun _ _ => 0), (fun _ => 0, fun _ => 0, fun _ _ => 0))
theorem Ow.psx' {g g' : GM} (h : Ow PSx QSx g g') : Ow PFx QFx g g' := h.mono (fun a b q => by unfold PSx at q; unfold PFx; omega) (fun a b q => by unfold QSx at q; unfold QFx; omega)
theorem Ow.psm' {k : Nat} {g g' : GM} (h : Ow (PSm k) (QSm k) g g') : Ow (PFm k) (QFm k) g g' := h.mono (fun a b q => by unfold PSm at q; unfold PFm; rcases q with q | q; exact Or.inl (by omega); exact Or.inr (Or.inr q)) (fun a b q => q)
theorem f_store94 {gx gm : GM} {b : Nat} (hF : Fa gx gm) (hb : b < 2) (hrb : gi gm 0 24 = nI b) : F_X7_store_94 gm = some (-1, gm) := by
  have st : ∀ kb x, F_X7_store_96B kb (x, gm) = some (-1, gm) := by
    intro kb x
    unfold F_X7_store_96B F_X7_store_135
    dsimp only
    rw [hrb, ck_true (inB_nI hb (by decide)), hF.bad, Option.bind_some, if_pos rfl, Option.bind_some, if_pos rfl]
    split <;> rfl
  exact st (fixN F_X7_store_96B 69999) 0
theorem s_readAll {gx gm : GM} {len b : Nat} {tx : Nat → Nat} (hT : TP gx gm len tx) (hr : RsX gx) (hb : b < 2) (h23 : gi gm 0 23 = nI b) :
    ∃ gx4 r, F_X3_readAll (zi gx 42) = some (r, gx4) ∧ Ow PFx QFx gx gx4 ∧
    ((r = 0 ∧ ∃ gm', F_X7_store gm = some (-1, gm') ∧ Ow (PFm (1 - b)) (QFm (1 - b)) gm gm' ∧ gi gm' 0 2 = 0 ∧ gi gx4 1 9 = gi gm' 0 4 ∧ gi gx4 1 10 = gi gm' 0 5) ∨
     (r = 1 ∧ ∃ gm1 S, F_X7_store gm = F_X7_store_135 gm1 ∧ gi gm1 0 4 = 0 ∧ gi gm1 0 5 = -1 ∧ gi gx4 1 9 = 0 ∧ gi gx4 1 10 = -1 ∧ gi gm1 0 24 = nI (1 - b) ∧ Ow (PFm (1 - b)) (QFm (1 - b)) gm gm1 ∧ gi gm1 0 2 = 0 ∧ SS 17 (1 - b) gx4 gm1 S)) := by
  have hb' : 1 - b < 2 := by omega
  obtain ⟨gm1, t1, t2, t3, t4, t5, t6, t7, t8⟩ := m_takeTape hT (w := false)
  have t1' : F_X7_takeTape 0 gm = some gm1 := t1
  obtain ⟨gx3, f1, f2, f3, f4⟩ := x_fill25 (si (si (zi gx 42) 17 0 0) 17 6 0)
  have hx3 : ∀ a i, ¬ a = 17 → ¬ a = 25 → ¬ a = 42 → gi gx3 a i = gi gx a i := fun a i p q s => by
    rw [f2 a i q, gi_si, if_neg (by omega), gi_si, if_neg (by omega), zi_gi, if_neg s]
  have lx3 : ∀ a i, ¬ a = 42 → gl gx3 a i = gl gx a i := fun a i s => by
    rw [f3 a i, gl_si, gl_si, zi_gl, if_neg s]
  have hX3 : XTx gx3 len tx := ⟨hT.1, by rw [hx3 _ _ (by decide) (by decide) (by decide)]; exact hT.2.1, fun j hj => ⟨(hT.2.2.2 j hj).1, by rw [hx3 _ _ (by decide) (by decide) (by decide)]; exact (hT.2.2.2 j hj).2.1⟩⟩
  have hr3 : RsX gx3 := fun i hi => by rw [lx3 _ _ (by decide)]; exact hr i hi
  have c23 : gi gm1 0 23 = nI b := by rw [t8.1 _ _ (by unfold PK; omega)]; exact h23
  have hm4 : ∀ a i, ¬ (a = 0 ∧ i = 24) → ¬ (a = 12 ∧ i = 1 - b) → ¬ (a = 13 ∧ i = 1 - b) → gi (si (si (si gm1 0 24 (nI (1 - b))) 12 (1 - b) 0) 13 (1 - b) 0) a i = gi gm1 a i := fun a i p q s => by
    rw [gi_si, if_neg s, gi_si, if_neg q, gi_si, if_neg p]
  have c24 : gi (si (si (si gm1 0 24 (nI (1 - b))) 12 (1 - b) 0) 13 (1 - b) 0) 0 24 = nI (1 - b) := by
    rw [gi_si, if_neg (by omega), gi_si, if_neg (by omega), gi_same]
  have c12 : gi (si (si (si gm1 0 24 (nI (1 - b))) 12 (1 - b) 0) 13 (1 - b) 0) 12 (1 - b) = 0 := by
    rw [gi_si, if_neg (by omega), gi_same]
  have c13 : gi (si (si (si gm1 0 24 (nI (1 - b))) 12 (1 - b) 0) 13 (1 - b) 0) 13 (1 - b) = 0 := gi_same
  have eM : F_X7_store gm = (F_X7_next (si (si (si gm1 0 24 (nI (1 - b))) 12 (1 - b) 0) 13 (1 - b) 0)).bind fun g_22 => fixN F_X7_store_39B FU g_22 := by
    unfold F_X7_store
    rw [t1', Option.bind_some, c23, bk_sub hb, lt_def, gi_same, ck_true (inB_nI hb' (by decide)), nI_clamp (by omega), lt_def, gi_si, if_neg (by omega), gi_same, ck_true (inB_nI hb' (by decide)), nI_clamp (by omega), lt_def]
  have om4 : Ow (PFm (1 - b)) (QFm (1 - b)) gm (si (si (si gm1 0 24 (nI (1 - b))) 12 (1 - b) 0) 13 (1 - b) 0) := (((t8.mono (fun a i q => by unfold PK at q; unfold PFm; rcases q with q | q; exact Or.inl (by omega); exact Or.inr (Or.inl q)) (fun a i q => q.elim)).si (Or.inl (by omega))).si (Or.inr (Or.inr (by unfold BKm; omega)))).si (Or.inr (Or.inr (by unfold BKm; omega)))
  generalize hgm4 : si (si (si gm1 0 24 (nI (1 - b))) 12 (1 - b) 0) 13 (1 - b) 0 = gm4 at *
  have hM4 : MTx gm4 len tx := ⟨t2.1, by rw [hm4 _ _ (by omega) (by omega) (by omega)]; exact t2.2.1, fun j hj => ⟨(t2.2.2 j hj).1, by rw [hm4 _ _ (by omega) (by omega) (by omega)]; exact (t2.2.2 j hj).2⟩⟩
  obtain ⟨gx5, gm5, t, s, e, o1, o2, o3, o4, o5⟩ := s_open (w := false) hX3 hr3 hM4 (by rw [hm4 _ _ (by omega) (by omega) (by omega)]; exact t7) (by rw [hm4 _ _ (by omega) (by omega) (by omega)]; exact t4) (by rw [hm4 _ _ (by omega) (by omega) (by omega)]; exact t5) (by rw [hm4 _ _ (by omega) (by omega) (by omega)]; exact t3)
  have o1' : F_X4_open 0 gx3 = some gx5 := o1
  have hx5 : ∀ a i, ¬ a = 1 → gi gx5 a i = gi gx3 a i := fun a i q => o4.1 a i (fun r => q r.1)
  have hm5 : ∀ a i, ¬ (a = 0 ∧ 4 ≤ i ∧ i ≤ 10) → gi gm5 a i = gi gm4 a i := fun a i q => o5.1 a i q
  have x170 : gi gx3 17 0 = 0 := by rw [f2 _ _ (by decide), gi_si, if_neg (by decide), gi_same]
  have x176 : gi gx3 17 6 = 0 := by rw [f2 _ _ (by decide), gi_same]
  have hA : RA (1 - b) gx5 gm5 S00 := by
    refine ⟨⟨hb', Nat.zero_le _, ?_, ?_, fun t ht => absurd ht (Nat.not_lt_zero _)⟩, ⟨Nat.zero_le _, ?_, ?_, fun r hr => absurd hr (Nat.not_lt_zero _), fun u v hu _ => absurd hu (Nat.not_lt_zero _)⟩, fun r hr => absurd hr (Nat.not_lt_zero _), fun r _ hr c hc => ?_⟩
    · rw [hx5 _ _ (by decide)]; exact x170
    · rw [hm5 _ _ (by omega)]; exact c12
    · rw [hx5 _ _ (by decide)]; exact x176
    · rw [hm5 _ _ (by omega)]; exact c13
    · rw [hx5 _ _ (by decide)]; exact f4 _ (by omega)
  have c24' : gi gm5 0 24 = nI (1 - b) := by rw [hm5 _ _ (by omega)]; exact c24
  have c2' : gi gm5 0 2 = 0 := by rw [hm5 _ _ (by omega), hm4 _ _ (by omega) (by omega) (by omega)]; exact t6
  have ox5 : Ow PFx QFx gx gx5 := by
    refine ⟨fun a i q => ?_, fun a i q => ?_⟩
    · unfold PFx at q
      rw [o4.1 a i (fun r => by unfold PO at r; omega), hx3 a i (by omega) (by omega) (by omega)]
    · unfold QFx at q
      rw [o4.2 a i (fun r => by unfold QT at r; omega), lx3 a i (by omega)]
  have om5 : Ow (PFm (1 - b)) (QFm (1 - b)) gm gm5 := om4.tr (o5.psm.psm')
  obtain ⟨gx6, gm6, p1, p2, p3, p4, p5⟩ := s_parts 22 0 gx5 gm5 S00 t s e rfl rfl o3 hA c24' FU FU (by decide) (by decide)
  have p1' : fixN (F_X3_readAll_20B 22) FU (0, gx5) = F_X3_readAll_131 gx6 := p1
  have eX : F_X3_readAll (zi gx 42) = F_X3_readAll_131 gx6 := by
    unfold F_X3_readAll F_X2_clear_p
    rw [lt_def, lt_def, f1, Option.bind_some, Option.bind_some, o1', Option.bind_some, p1']
  have eM6 : F_X7_store gm = F_X7_store_94 gm6 := by rw [eM, o2, Option.bind_some, p2]
  have c24'' : gi gm6 0 24 = nI (1 - b) := by rw [p4.m0 (by decide)]; exact c24'
  have c2'' : gi gm6 0 2 = 0 := by rw [p4.1 _ _ (fun q => by unfold PSm BKm at q; omega)]; exact c2'
  have ox6 : Ow PFx QFx gx gx6 := ox5.tr p3.psx'
  have om6 : Ow (PFm (1 - b)) (QFm (1 - b)) gm gm6 := om5.tr p4.psm'
  rw [eX, eM6]
  rcases p5 with ⟨s', e', S', y1, y2⟩ | hF
  · obtain ⟨gx7, j1, j2⟩ := x_join y2 y1.f0x y1.2.2.2.2.2.2.2.2.1
    have ox7 : Ow PFx QFx gx gx7 := ox6.tr ⟨fun a i q => j1.1.1 a i (by unfold PFx at q; omega) (by unfold PFx at q; omega), fun a i _ => j1.1.2.1 a i⟩
    have e131 : F_X3_readAll_131 gx6 = F_X3_readAll_145 gx7 := by
      unfold F_X3_readAll_131
      rw [if_pos y1.f0x, j2, Option.bind_some]
    rw [e131]
    rcases m_checks y2 y1.f0m c24'' with ⟨k1, k2⟩ | ⟨k, k1, k2⟩
    · rcases j1.2 with ⟨_, z1, z2, z3⟩ | ⟨k, z1, _⟩
      · have hJ : JC 17 gx7 S' := fun r c hc hr => z3 r c hc hr (by omega)
        obtain ⟨gx8, w1, w2⟩ := x_findLinks (j1.rt y2.1) (j1.rwx y2.rwx) (fun r hr => (y2.2.1.2.2.2.1 r hr).1) hJ
        have d9 : gi gx8 1 9 = 0 := by rw [w1.1 _ _ (by decide)]; exact z1
        have d10 : gi gx8 1 10 = -1 := by rw [w1.1 _ _ (by decide)]; exact z2
        refine ⟨gx8, 1, ?_, ox7.tr ⟨fun a i q => w1.1 a i (by unfold PFx at q; omega), fun a i _ => w1.2.1 a i⟩, Or.inr ⟨rfl, gm6, S', k1, y1.f0m, y1.2.2.2.2.2.2.2.2.2, d9, d10, c24'', om6, c2'', ?_, ?_, ?_, k2, fun r hr => w1.2.2 r hr⟩⟩
        · unfold F_X3_readAll_145 F_X3_readAll_162
          rw [if_pos z1, w2, Option.bind_some, if_pos d9]
        · have h7 := j1.rt y2.1
          refine ⟨h7.1, h7.2.1, by rw [w1.1 _ _ (by decide)]; exact h7.2.2.1, h7.2.2.2.1, fun t ht => ?_⟩
          obtain ⟨a1, a2, a3, a4, a5, a6, a7, a8⟩ := h7.2.2.2.2 t ht
          refine ⟨a1, a2, by rw [w1.2.1]; exact a3, by rw [w1.1 _ _ (by decide)]; exact a4, a5, by rw [w1.1 _ _ (by decide)]; exact a6, a7, fun c hc => ?_⟩
          obtain ⟨c1, c2, c3, c4⟩ := a8 c hc
          exact ⟨by rw [w1.2.1]; exact c1, c2, by rw [w1.1 _ _ (by decide)]; exact c3, c4⟩
        · obtain ⟨r1, r2, r3, r4, r5⟩ := y2.2.1
          have hh : ∀ a i, 17 ≤ a → ¬ a = 25 → ¬ a = 27 → gi gx8 a i = gi gx6 a i := fun a i q1 q2 q3 => by rw [w1.1 a i q3, j1.1.1 a i q2 (by omega)]
          refine ⟨r1, by rw [hh _ _ (by decide) (by decide) (by decide)]; exact r2, r3, fun r hr => ?_, r5⟩
          obtain ⟨a1, a2, a3, a4, a5, a6, a7⟩ := r4 r hr
          exact ⟨a1, a2, by rw [hh _ _ (by decide) (by decide) (by decide)]; exact a3, a4, by rw [hh _ _ (by decide) (by decide) (by decide)]; exact a5, a6, a7⟩
        · intro r c hc hr
          show gi gx8 25 (r * 5 + c) = _
          rw [w1.1 _ _ (by decide)]
          exact hJ r c hc hr
      · exact absurd z1 (fun q => k2.nf q)
    · rcases j1.2 with ⟨z0, _⟩ | ⟨k', z1, z2, z3⟩
      · exact absurd k1 (fun q => z0.nf q)
      · have ek : k' = k := z1.uniq k1
        subst ek
        have hne : ¬ gi gx7 1 9 = 0 := by rw [z2]; decide
        have hk := k1.1
        have hbad := k1.2.1
        have hR16 := y2.2.1.1
        obtain ⟨pp, _, q1, q2⟩ := (y2.2.2.1 (k' / 5) (by omega) (k' % 5) (by omega)).2 hbad.1 hbad.2.2.1
        rw [show k' / 5 * 5 + k' % 5 = k' by omega] at q1
        rw [show 5 * (16 * (1 - b) + k' / 5) + k' % 5 = 80 * (1 - b) + k' by omega] at q2
        refine ⟨gx7, 0, ?_, ox7, Or.inl ⟨rfl, gmF5 (1 - b) gm6 k', ?_, ?_, ?_, ?_, ?_⟩⟩
        · unfold F_X3_readAll_145 F_X3_readAll_162
          rw [if_neg hne, if_neg hne]
        · rw [k2]
          unfold F_X7_store_135
          rw [gmF5_bad, Option.bind_some, if_pos rfl]
        · exact (om6.si (Or.inl (by omega))).si (Or.inl (by omega))
        · unfold gmF5
          rw [gi_si, if_neg (by decide), gi_si, if_neg (by decide)]; exact c2''
        · unfold gmF5
          rw [gi_si, if_neg (by decide), gi_same]; exact z2
        · unfold gmF5
          rw [gi_same, q2, z3]; exact q1
  · obtain ⟨k, p, _, _, g1, g2, g3, g4⟩ := hF.1
    refine ⟨gx6, 0, ?_, ox6, Or.inl ⟨rfl, gm6, f_store94 hF hb' c24'', om6, c2'', g1.trans g2.symm, g3.trans g4.symm⟩⟩
    unfold F_X3_readAll_131 F_X3_readAll_145 F_X3_readAll_162
    rw [if_neg hF.nx, if_neg hF.nx, if_neg hF.nx]
theorem pg_gi (sw : Nat → Nat) (g : GM) (a b : Nat) : gi (pg sw g) a b = gi g (sw a) b := rfl
theorem pg_gl (sw : Nat → Nat) (g : GM) (a b : Nat) : gl (pg sw g) a b = gl g (sw a) b := rfl
theorem swS_lo {a : Nat} (h : a ≤ 10) : swS (6 + a) = 17 + a := by unfold swS; rw [if_pos (by omega)]; omega
theorem swS_id {a : Nat} (h : a < 6 ∨ 28 ≤ a) : swS a = a := by unfold swS; rw [if_neg (by omega), if_neg (by omega)]
theorem swD_lo {a : Nat} (h : a < 7) : swD (28 + a) = 35 + a := by unfold swD; rw [if_pos (by omega)]; omega
theorem swD_id {a : Nat} (h : a < 28 ∨ 42 ≤ a) : swD a = a := by unfold swD; rw [if_neg (by omega), if_neg (by omega)]
/-- store() on both sides -/
theorem s_store {gx gm : GM} {len b wb : Nat} {tx : Nat → Nat} (hT : TP gx gm len tx) (hr : RsX gx) (hb : b < 2) (h23 : gi gm 0 23 = nI b) (hwb : wb < 2) (h37 : gi gm 0 37 = nI wb) :
    ∃ gx' gm' r, F_X6_store gx = some (r, gx') ∧ F_X7_store gm = some (r, gm') ∧ (gi gx' 1 2 = 0 ∧ gi gm' 0 2 = 0 ∧ RsX gx' ∧ gi gx' 1 9 = gi gm' 0 4 ∧ gi gx' 1 10 = gi gm' 0 5) ∧
    ((Ow PFx QFx gx gx' ∧ Ow (PFm (1 - b)) (QFm (1 - b)) gm gm') ∨
     (∃ S, gi gm' 0 23 = nI (1 - b) ∧ SS 6 (1 - b) gx' gm' S ∧ (gi gx' 28 0 = 0 ∧ gi gx' 28 4 = 0 ∧ gi gx' 0 7 = 0 ∧ gi gx' 0 8 = 0 ∧ (∀ j, j < 25 → gi gx' 4 j = -1) ∧ gi gx' 0 9 = 0 ∧ gi gx' 0 12 = 0) ∧
       gi gm' 0 37 = nI wb ∧ gi gm' 14 wb = 0 ∧ gi gm' 0 49 = 0 ∧ gi gm' 0 50 = 0 ∧ gi gm' 0 52 = 0 ∧ ∀ j, j < 25 → gi gm' 32 j = -1)) := by
  obtain ⟨gx4, r, h1, h2, h3⟩ := s_readAll hT hr hb h23
  have hr4 : RsX gx4 := fun i hi => by rw [h2.2 _ _ (by unfold QFx; omega)]; exact hr i hi
  have e1 : F_X6_store gx = if r = 0 then some (-1, si gx4 1 2 0) else lt (pg swS (si gx4 1 2 0)) fun g_7 => (F_X1_clear_d g_7).bind fun g_8 => lt (si g_8 0 7 0) fun g_9 => lt (si g_9 0 8 0) fun g_10 => (F_J7_fill_53178_4 (-1) g_10).bind fun g_11 => (F_X6_forgetPieces g_11).bind fun g_12 => some (gi g_12 6 6, g_12) := by
    unfold F_X6_store F_X3_init
    rw [lt_def, Option.bind_some, h1, Option.bind_some]
    dsimp only
    rw [lt_def, lt_def]
  rcases h3 with ⟨rfl, gm', q1, q2, q3, q4, q5⟩ | ⟨rfl, gm1, S, q1, q2, q3, q4, q5, q6, q7, q8, q9⟩
  · rw [if_pos rfl] at e1
    refine ⟨_, gm', -1, e1, q1, ⟨gi_same, q3, hr4, ?_, ?_⟩, Or.inl ⟨h2.si (Or.inl (by omega)), q2⟩⟩
    · rw [gi_si, if_neg (by decide)]; exact q4
    · rw [gi_si, if_neg (by decide)]; exact q5
  · have c37 : gi gm1 0 37 = nI wb := by rw [q7.1 _ _ (by unfold PFm BKm; omega)]; exact h37
    obtain ⟨gm', m1, m2, m3, m4, m5, m6, m7, m8⟩ := m_store135 (b := 1 - b) (by omega) hwb q2 q6 c37
    obtain ⟨gx8, f1, f2, f3, f4⟩ := x_fill4 (si (si (si (si (pg swS (si gx4 1 2 0)) 28 0 0) 28 4 0) 0 7 0) 0 8 0)
    have hx8 : ∀ a i, ¬ a = 0 → ¬ a = 28 → ¬ a = 4 → gi gx8 a i = gi (si gx4 1 2 0) (swS a) i := fun a i p q s => by
      rw [f2 a i s, gi_si, if_neg (by omega), gi_si, if_neg (by omega), gi_si, if_neg (by omega), gi_si, if_neg (by omega), pg_gi]
    have lx8 : ∀ a i, gl gx8 a i = gl gx4 (swS a) i := fun a i => by
      rw [f3 a i, gl_si, gl_si, gl_si, gl_si, pg_gl, gl_si]
    rw [if_neg (by decide)] at e1
    have e2 : F_X6_store gx = some (gi (si (si gx8 0 9 0) 0 12 0) 6 6, si (si gx8 0 9 0) 0 12 0) := by
      rw [e1]
      unfold F_X1_clear_d F_X6_forgetPieces
      rw [lt_def, lt_def, lt_def, Option.bind_some, lt_def, lt_def, f1, Option.bind_some, lt_def, lt_def, Option.bind_some]
    have hx9 : ∀ a i, ¬ a = 0 → gi (si (si gx8 0 9 0) 0 12 0) a i = gi gx8 a i := fun a i p => by
      rw [gi_si, if_neg (by omega), gi_si, if_neg (by omega)]
    have b6 : ∀ a i, a ≤ 10 → gi (si (si gx8 0 9 0) 0 12 0) (6 + a) i = gi gx4 (17 + a) i ∧ gl (si (si gx8 0 9 0) 0 12 0) (6 + a) i = gl gx4 (17 + a) i := fun a i ha => by
      refine ⟨?_, ?_⟩
      · rw [hx9 _ _ (by omega), hx8 _ _ (by omega) (by omega) (by omega), swS_lo ha, gi_si, if_neg (by omega)]
      · rw [gl_si, gl_si, lx8, swS_lo ha]
    have b66 : gi (si (si gx8 0 9 0) 0 12 0) 6 6 = gi gm1 13 (1 - b) := by
      rw [(b6 0 6 (by decide)).1]
      exact q9.2.1.2.1.trans q9.2.1.2.2.1.symm
    have b1 : ∀ i, ¬ i = 2 → gi (si (si gx8 0 9 0) 0 12 0) 1 i = gi gx4 1 i := fun i hi => by
      rw [hx9 _ _ (by decide), hx8 _ _ (by decide) (by decide) (by decide), swS_id (by decide), gi_si, if_neg (by omega)]
    have n0 : ∀ a i, ¬ a = 0 → ¬ a = 14 → ¬ a = 32 → gi gm' a i = gi gm1 a i := fun a i p q s => m8.1 a i (by omega)
    refine ⟨si (si gx8 0 9 0) 0 12 0, gm', gi gm1 13 (1 - b), by rw [e2, b66], by rw [q1]; exact m1, ⟨?_, ?_, ?_, ?_, ?_⟩, Or.inr ⟨S, m2, ?_, ⟨?_, ?_, ?_, ?_, ?_, ?_, ?_⟩, ?_, m3, m5, m4, m6, m7⟩⟩
    · rw [hx9 _ _ (by decide), hx8 _ _ (by decide) (by decide) (by decide), swS_id (by decide), gi_same]
    · rw [m8.1 _ _ (by omega)]; exact q8
    · intro i hi
      rw [gl_si, gl_si, lx8, swS_id (by decide)]; exact hr4 i hi
    · rw [b1 _ (by decide), q4, m8.1 _ _ (by omega)]; exact q2.symm
    · rw [b1 _ (by decide), q5, m8.1 _ _ (by omega)]; exact q3.symm
    · exact q9.mv b6 (fun a i hq => ⟨n0 a i (by unfold BKm at hq; omega) (by unfold BKm at hq; omega) (by unfold BKm at hq; omega), m8.2 a i (fun q => q)⟩)
    · rw [hx9 _ _ (by decide), f2 _ _ (by decide), gi_si, if_neg (by decide), gi_si, if_neg (by decide), gi_si, if_neg (by decide), gi_same]
    · rw [hx9 _ _ (by decide), f2 _ _ (by decide), gi_si, if_neg (by decide), gi_si, if_neg (by decide), gi_same]
    · rw [gi_si, if_neg (by decide), gi_si, if_neg (by decide), f2 _ _ (by decide), gi_si, if_neg (by decide), gi_same]
    · rw [gi_si, if_neg (by decide), gi_si, if_neg (by decide), f2 _ _ (by decide), gi_same]
    · intro j hj
      rw [hx9 _ _ (by decide)]; exact f4 j hj
    · rw [gi_si, if_neg (by decide), gi_same]
    · exact gi_same
    · rw [m8.1 _ _ (by omega)]; exact c37
