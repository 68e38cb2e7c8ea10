/-! the class's new object; all calls -/
theorem pw_o {i k : Nat} (hi : i < 48) : pw (i + 1) k = if chr i = 32 then pw i k else if k = fl i then pw i k * 32 + ((chr i - 97) + 1).toInt64 else pw i k := rfl
theorem x_tape : ∃ g', F_X4_init_1 G0 = some g' ∧ (∀ a i, gi g' a i = gi (si (si G0 1 3 1) 1 10 (-1)) a i) ∧ (∀ a i, ¬ a = 3 → gl g' a i = 0) ∧ ∀ k, gl g' 3 k = pw 48 k := by
  have hl := fix_to (B := F_X4_init_36B) (I := fun i s => s.1 = nI (fl i) ∧ s.2.1 = nI i ∧ (∀ a k, gi s.2.2 a k = gi (si (si G0 1 3 1) 1 10 (-1)) a k) ∧ (∀ a k, ¬ a = 3 → gl s.2.2 a k = 0) ∧ ∀ k, gl s.2.2 3 k = pw i k) (E := fun s => some s.2.2) 48 (fun i s hi hI => ?_) (fun s hI kb => ?_) 48 0 FU (0, 0, si (si G0 1 3 1) 1 10 (-1)) rfl (by decide) ⟨rfl, rfl, fun _ _ => rfl, fun _ _ _ => rfl, fun _ => rfl⟩
  · obtain ⟨⟨x, y, g'⟩, ⟨_, _, i1, i2, i3⟩, he⟩ := hl
    dsimp only at i1 i2 i3 he
    refine ⟨g', ?_, i1, i2, i3⟩
    unfold F_X4_init_1
    rw [zg0, lt_def, zg0, lt_def, lt_def, lt_def]
    exact he
  · obtain ⟨x, y, g⟩ := s
    obtain ⟨hx, hy, i1, i2, i3⟩ := hI
    dsimp only at hx hy i1 i2 i3
    subst hx hy
    have hf := fl_ok i hi
    have pre : ∀ kb, F_X4_init_36B kb (nI (fl i), nI i, g) = if chr i = 32 then kb (nI (fl i + 1), nI (i + 1), g) else kb (nI (fl i), nI (i + 1), sl g 3 (fl i) ((pw i (fl i) * 32) + (((chr i - 97) + 1).toInt64))) := by
      intro kb
      unfold F_X4_init_36B F_X4_init_94
      dsimp only
      rw [len_ok, Option.bind_some, if_neg (show ¬ (48 : Int32) ≤ nI i from nI_ge (a := i) (b := 48) hi (by decide)), if_neg (show ¬ (11 : Int32) ≤ nI (fl i) from nI_ge (a := fl i) (b := 11) hf (by decide)), chr_ok i hi, Option.bind_some, lt_def, ck_true (inB_nI hf (by decide)), ck_true (inB_nI hf (by decide)), nI_clamp (by omega), i3, lt_def, lt_def, lt_def, lt_def, nI_1, nI_1]
    by_cases c : chr i = 32
    · refine ⟨(nI (fl i + 1), nI (i + 1), g), ⟨?_, rfl, i1, i2, fun k => ?_⟩, fun kb => by rw [pre, if_pos c]⟩
      · show nI (fl i + 1) = nI (fl (i + 1))
        simp only [fl]
        rw [if_pos c]
      · show gl g 3 k = _
        rw [i3, pw_o hi, if_pos c]
    · refine ⟨(nI (fl i), nI (i + 1), sl g 3 (fl i) ((pw i (fl i) * 32) + (((chr i - 97) + 1).toInt64))), ⟨?_, rfl, fun a k => i1 a k, fun a k ha => ?_, fun k => ?_⟩, fun kb => by rw [pre, if_neg c]⟩
      · show nI (fl i) = nI (fl (i + 1))
        simp only [fl]
        rw [if_neg c]
      · show gl (sl g 3 _ _) a k = _
        rw [gl_sl, if_neg (by omega)]; exact i2 a k ha
      · show gl (sl g 3 _ _) 3 k = _
        rw [pw_o hi, if_neg c, gl_sl]
        by_cases e : k = fl i
        · rw [if_pos ⟨rfl, e⟩, if_pos e, e]
        · rw [if_neg (fun q => e q.2), if_neg e]; exact i3 k
  · obtain ⟨x, y, g⟩ := s
    obtain ⟨hx, hy, _⟩ := hI
    dsimp only at hx hy
    subst hx hy
    unfold F_X4_init_36B
    dsimp only
    rw [len_ok, Option.bind_some, if_pos (by decide)]
theorem x_init : ∃ g', F_X6_init (zi G0 0) = some g' ∧ RsX g' ∧ (∀ a i, ¬ a = 4 → gi g' a i = gi (si (si G0 1 3 1) 1 10 (-1)) a i) ∧ ∀ j, j < 25 → gi g' 4 j = -1 := by
  obtain ⟨g1, a1, a2, a3, a4⟩ := x_tape
  have zz : ∀ n, ¬ n = 1 → ¬ n = 3 → zi g1 n = g1 := fun n h1 h3 => zi_id (fun i => by rw [a2, gi_si, if_neg (by omega), gi_si, if_neg (by omega)]; rfl) (fun i => a3 n i h3)
  obtain ⟨g8, f1, f2, f3, f4⟩ := x_fill4 g1
  refine ⟨g8, ?_, fun i hi => ?_, fun a i ha => by rw [f2 a i ha]; exact a2 a i, f4⟩
  · unfold F_X6_init F_X2_init_6 F_X2_init_17 F_X1_init_28 F_X1_init_35
    rw [zg0, zg0, a1, Option.bind_some]
    rw [zz 4 (by decide) (by decide), lt_def, zz 5 (by decide) (by decide), lt_def, zz 6 (by decide) (by decide)]
    rw [zz 7 (by decide) (by decide), lt_def, zz 8 (by decide) (by decide), lt_def, zz 9 (by decide) (by decide), lt_def, zz 10 (by decide) (by decide), lt_def, zz 11 (by decide) (by decide), lt_def, zz 12 (by decide) (by decide), lt_def, zz 13 (by decide) (by decide), lt_def, zz 14 (by decide) (by decide), lt_def, zz 15 (by decide) (by decide), lt_def, zz 16 (by decide) (by decide), lt_def, Option.bind_some, zz 17 (by decide) (by decide)]
    rw [zz 18 (by decide) (by decide), lt_def, zz 19 (by decide) (by decide), lt_def, zz 20 (by decide) (by decide), lt_def, zz 21 (by decide) (by decide), lt_def, zz 22 (by decide) (by decide), lt_def, zz 23 (by decide) (by decide), lt_def, zz 24 (by decide) (by decide), lt_def, zz 25 (by decide) (by decide), lt_def, zz 26 (by decide) (by decide), lt_def, zz 27 (by decide) (by decide), lt_def, Option.bind_some, zz 28 (by decide) (by decide)]
    rw [zz 29 (by decide) (by decide), lt_def, zz 30 (by decide) (by decide), lt_def, zz 31 (by decide) (by decide), lt_def, zz 32 (by decide) (by decide), lt_def, zz 33 (by decide) (by decide), lt_def, zz 34 (by decide) (by decide), lt_def, Option.bind_some, zz 35 (by decide) (by decide)]
    rw [zz 36 (by decide) (by decide), lt_def, zz 37 (by decide) (by decide), lt_def, zz 38 (by decide) (by decide), lt_def, zz 39 (by decide) (by decide), lt_def, zz 40 (by decide) (by decide), lt_def, zz 41 (by decide) (by decide), lt_def, Option.bind_some, f1, Option.bind_some]
  · rw [f3, a4, pw_ok i hi]
theorem i_init {gx gm : GM} (hr : RsX gx) (hx : ∀ a i, ¬ a = 4 → gi gx a i = gi (si (si G0 1 3 1) 1 10 (-1)) a i) (hx4 : ∀ j, j < 25 → gi gx 4 j = -1) (hm : ∀ a i, ¬ a = 32 → gi gm a i = if a = 0 ∧ i = 5 then -1 else 0) (hm32 : ∀ j, j < 25 → gi gm 32 j = -1) : INV gx gm := by
  have x0 : ∀ a i, ¬ a = 4 → ¬ a = 1 → gi gx a i = 0 := fun a i p q => by rw [hx a i p, gi_si, if_neg (by omega), gi_si, if_neg (by omega)]; rfl
  have m0 : ∀ a i, ¬ a = 32 → ¬ (a = 0 ∧ i = 5) → gi gm a i = 0 := fun a i p q => by rw [hm a i p, if_neg q]
  refine ⟨0, fun _ => 0, 0, 0, S00, D00, 0, 0, 0, 0, 0, ⟨⟨by decide, ?_, m0 _ _ (by decide) (by decide), fun j hj => absurd hj (Nat.not_lt_zero _)⟩, hr, ?_, ?_⟩, ⟨⟨⟨by decide, Nat.zero_le _, x0 _ _ (by decide) (by decide), m0 _ _ (by decide) (by decide), fun t ht => absurd ht (Nat.not_lt_zero _)⟩, ⟨Nat.zero_le _, x0 _ _ (by decide) (by decide), m0 _ _ (by decide) (by decide), fun r hr => absurd hr (Nat.not_lt_zero _), fun u v hu _ => absurd hu (Nat.not_lt_zero _)⟩, fun r c _ hr => absurd hr (Nat.not_lt_zero _), fun j hj => absurd hj (Nat.not_lt_zero _), fun r hr => absurd hr (Nat.not_lt_zero _)⟩, m0 _ _ (by decide) (by decide), by decide, m0 _ _ (by decide) (by decide), m0 _ _ (by decide) (by decide), ⟨Nat.zero_le _, fun k hk => absurd hk (Nat.not_lt_zero _)⟩, fun k hk => absurd hk (Nat.not_lt_zero _), by decide, by decide, Nat.two_pow_pos _, m0 _ _ (by decide) (by decide)⟩, ⟨⟨x0 _ _ (by decide) (by decide), fun k hk => absurd hk (Nat.not_lt_zero _), 0, fun _ => 0, fun _ => 0, fun _ => 0, x0 _ _ (by decide) (by decide), Nat.zero_le _, fun j hj => absurd hj (Nat.not_lt_zero _), fun j hj => absurd hj (Nat.not_lt_zero _), fun k hk => absurd hk (Nat.not_lt_zero _)⟩, x0 _ _ (by decide) (by decide), fun r _ _ => Nat.and_zero _⟩, ⟨Nat.two_pow_pos _, x0 _ _ (by decide) (by decide), m0 _ _ (by decide) (by decide)⟩, fun j hj => ⟨by rw [hx4 j hj, hm32 j hj], 0, by decide, hx4 j hj⟩, fun q => absurd (x0 _ _ (by decide) (by decide)) q, fun q => absurd (x0 _ _ (by decide) (by decide)) q, fun q => absurd (m0 _ _ (by decide) (by decide)) q⟩
  · rw [hx _ _ (by decide), gi_si, if_neg (by decide), gi_si, if_neg (by decide)]; rfl
  · rw [hx _ _ (by decide), gi_si, if_neg (by decide), gi_si, if_neg (by decide), m0 _ _ (by decide) (by decide)]; rfl
  · rw [hx _ _ (by decide), gi_same, hm _ _ (by decide), if_pos ⟨rfl, rfl⟩]
theorem o_op {gx gm : GM} (h : INV gx gm) (k a1 a2 a3 a4 a5 : Int32) : ∃ gx' gm', opF k a1 a2 a3 a4 a5 gx gm = some (gx', gm') ∧ INV gx' gm' := by
  unfold opF
  by_cases c0 : k = 0
  · rw [if_pos c0]; exact o_feed h a1 a2 a3 a4 a5
  rw [if_neg c0]
  by_cases c1 : k = 1
  · rw [if_pos c1]; exact o_end h a1 a2 a3 a4 a5
  rw [if_neg c1]
  by_cases c2 : k = 2
  · rw [if_pos c2]; exact o_store h a1 a2 a3 a4 a5
  rw [if_neg c2]
  by_cases c3 : k = 3
  · rw [if_pos c3]; exact o_wishes h a1 a2 a3 a4 a5
  rw [if_neg c3]
  by_cases c4 : k = 4
  · rw [if_pos c4]; exact o_fault h a1 a2 a3 a4 a5
  rw [if_neg c4]
  by_cases c5 : k = 5
  · rw [if_pos c5]; exact o_row h a1 a2 a3 a4 a5
  rw [if_neg c5]
  by_cases c6 : k = 6
  · rw [if_pos c6]; exact o_value h a1 a2 a3 a4 a5
  rw [if_neg c6]
  by_cases c7 : k = 7
  · rw [if_pos c7]; exact o_holds h a1 a2 a3 a4 a5
  rw [if_neg c7]
  by_cases c8 : k = 8
  · rw [if_pos c8]; exact o_gone h a1 a2 a3 a4 a5
  rw [if_neg c8]
  by_cases c9 : k = 9
  · rw [if_pos c9]; exact o_least h a1 a2 a3 a4 a5
  rw [if_neg c9]
  by_cases c10 : k = 10
  · rw [if_pos c10]; exact o_keep h a1 a2 a3 a4 a5
  rw [if_neg c10]
  by_cases c11 : k = 11
  · rw [if_pos c11]; exact o_steady h a1 a2 a3 a4 a5
  rw [if_neg c11]
  by_cases c12 : k = 12
  · rw [if_pos c12]; exact o_piece h a1 a2 a3 a4 a5
  rw [if_neg c12]
  by_cases c13 : k = 13
  · rw [if_pos c13]; exact o_why h a1 a2 a3 a4 a5
  rw [if_neg c13]
  by_cases c14 : k = 14
  · rw [if_pos c14]; exact o_order h a1 a2 a3 a4 a5
  rw [if_neg c14]
  by_cases c15 : k = 15
  · rw [if_pos c15]; exact o_rings h a1 a2 a3 a4 a5
  rw [if_neg c15]
  by_cases c16 : k = 16
  · rw [if_pos c16]; exact o_hide h a1 a2 a3 a4 a5
  rw [if_neg c16]
  by_cases c17 : k = 17
  · rw [if_pos c17]; exact o_shown h a1 a2 a3 a4 a5
  rw [if_neg c17]
  by_cases c18 : k = 18
  · rw [if_pos c18]; exact o_weight h a1 a2 a3 a4 a5
  rw [if_neg c18]
  by_cases c19 : k = 19
  · rw [if_pos c19]; exact o_about h a1 a2 a3 a4 a5
  rw [if_neg c19]
  exact ⟨gx, gm, rfl, h⟩
theorem law_all (xs : Nat → Int32) : ∀ n i gx gm, INV gx gm → lawF xs n i gx gm = some () := by
  intro n
  induction n with
  | zero => intro i gx gm _; rfl
  | succ n ih =>
    intro i gx gm h
    obtain ⟨gx', gm', h1, h2⟩ := o_op h (xs i &&& 31) (xs (i + 1)) (xs (i + 2)) (xs (i + 3)) (xs (i + 4)) (xs (i + 5))
    show (opF (xs i &&& 31) (xs (i + 1)) (xs (i + 2)) (xs (i + 3)) (xs (i + 4)) (xs (i + 5)) gx gm).bind _ = _
    rw [h1, Option.bind_some]
    exact ih (i + 6) gx' gm' h2
