/-! lookAt of the reference -/
def MB (gx gm : GM) (S : St) (b wb : Nat) (D : Dm) (P N z G : Nat) : Prop := SS 6 b gx gm S ∧ gi gm 0 23 = nI b ∧ wb < 2 ∧ gi gm 0 37 = nI wb ∧ gi gm 14 wb = nI (dW D) ∧ DSs S D ∧ DKs gm S b wb P N z D ∧ (P ≤ 40 ∧ N ≤ 160 ∧ G < 2 ^ sR S ∧ gi gm 0 49 = nI G)
def LK (gm g : GM) : Prop := (∀ a i, ¬ (27 ≤ a ∧ a ≤ 30) → gi g a i = gi gm a i) ∧ ∀ a i, gl g a i = gl gm a i
theorem LK.rf (g : GM) : LK g g := ⟨fun _ _ _ => rfl, fun _ _ => rfl⟩
theorem LK.tr {g1 g2 g3 : GM} (h1 : LK g1 g2) (h2 : LK g2 g3) : LK g1 g3 := ⟨fun a i q => (h2.1 a i q).trans (h1.1 a i q), fun a i => (h2.2 a i).trans (h1.2 a i)⟩
theorem LK.si {g g' : GM} {a k : Nat} {v : Int32} (h : LK g g') (ha : 27 ≤ a ∧ a ≤ 30) : LK g (si g' a k v) := ⟨fun x i q => by rw [gi_si, if_neg (by omega)]; exact h.1 x i q, fun x i => h.2 x i⟩
theorem LK.off {g g' : GM} (h : Off 27 g g') : LK g g' := ⟨fun a i q => h.1 a i (by omega), h.2⟩
def asD (S : St) (D : Dm) (G k r : Nat) : Nat := if dL D k = true ∧ sB S r = dT D k then adn (lkr S (dS D k) (dC D k) r) G else 0
section LOOK
variable {gx gm : GM} {S : St} {b wb P N z G : Nat} {D : Dm}
theorem MB.lk {g : GM} (h : MB gx gm S b wb D P N z G) (hl : LK gm g) : MB gx g S b wb D P N z G := by
  obtain ⟨h1, h2, h3, h4, h5, h6, h7, h8, h9, h10, h11⟩ := h
  exact ⟨h1.mm (fun a i p q => hl.1 a i (by omega)) hl.2, by rw [hl.1 _ _ (by omega)]; exact h2, h3, by rw [hl.1 _ _ (by omega)]; exact h4, by rw [hl.1 _ _ (by omega)]; exact h5, h6, fun k hk => (h7 k hk).ag (fun a p q => hl.1 _ _ (by omega)) (fun i _ => ⟨hl.1 _ _ (by omega), hl.1 _ _ (by omega)⟩) (fun i _ => ⟨hl.1 _ _ (by omega), hl.1 _ _ (by omega)⟩) (fun i _ => hl.1 _ _ (by omega)) (Nat.le_refl _) h8 (Nat.le_refl _) h9 (Nat.le_refl _), h8, h9, h10, by rw [hl.1 _ _ (by omega)]; exact h11⟩
theorem lkc_top (S : St) (r : Nat) : ∀ d, lkc S r (sC S (sB S r) + d) = lkc S r (sC S (sB S r)) := by
  intro d
  induction d with
  | zero => rfl
  | succ d ih =>
    show (if sC S (sB S r) + d < sC S (sB S r) ∧ _ then _ else lkc S r (sC S (sB S r) + d)) = _
    rw [if_neg (by omega), ih]
theorem m_isLink (h : SS 6 b gx gm S) (h23 : gi gm 0 23 = nI b) {r c : Nat} (hr : r < sR S) (hc : c < sC S (sB S r)) : F_X7_isLink (nI r) (nI c) gm = some (if sL S (sB S r) c = 0 then 0 else 1) := by
  have n16 := h.r16
  obtain ⟨w1, _⟩ := h.rw hr
  obtain ⟨t1, t2, t3, t4, t5, t6⟩ := h.tb w1
  obtain ⟨c1, c2, c3, c4⟩ := t6 c hc
  unfold F_X7_isLink
  rw [m_tableAt h h23 hr, Option.bind_some, l5, nI_add, ck_true (inB_nI (by omega) (by decide)), nI_clamp (by omega), c4]
  simp only [cd_neg (show 5 * b + sL S (sB S r) c < 2 ^ 31 by omega)]
  split <;> rfl
theorem m_drawn (h : MB gx gm S b wb D P N z G) : ∃ g', F_X7_lookAt gm = fixN F_X7_lookAt_87B FU (0, g') ∧ LK gm g' ∧ ∀ r, r < sR S → gi g' 28 r = nI (lkc S r 5) := by
  have n16 := h.1.r16
  have hl := fix_to (B := F_X7_lookAt_2B) (I := fun r s => s.1 = nI r ∧ LK gm s.2 ∧ ∀ q, q < r → gi s.2 28 q = nI (lkc S q 5)) (E := fun s => fixN F_X7_lookAt_87B FU (0, s.2)) (sR S) (fun r s hr hI => ?_) (fun s hI kb => ?_) (sR S) 0 FU (0, gm) (by omega) (by show sR S < 70000; omega) ⟨rfl, LK.rf gm, fun q hq => by omega⟩
  · obtain ⟨⟨x, g'⟩, ⟨_, h2, h3⟩, h4⟩ := hl
    exact ⟨g', h4, h2, h3⟩
  · obtain ⟨x, g⟩ := s
    obtain ⟨hx, i1, i2⟩ := hI
    dsimp only at hx i1 i2
    subst hx
    obtain ⟨w1, _⟩ := h.1.rw hr
    obtain ⟨tC, _⟩ := h.1.tb w1
    have hi := fix_toK (B := fun kb2 => F_X7_lookAt_24B kb2 (nI r)) (I := fun c s => s.1 = nI c ∧ LK gm s.2 ∧ gi s.2 28 r = nI (lkc S r c) ∧ ∀ q, q < r → gi s.2 28 q = nI (lkc S q 5)) (E := fun kb2 s => kb2 (nI (r + 1), s.2)) (sC S (sB S r)) (fun c s hc hI => by
      obtain ⟨y, g⟩ := s
      obtain ⟨hy, j1, j2, j3⟩ := hI
      dsimp only at hy j1 j2 j3
      subst hy
      have hg := h.lk j1
      obtain ⟨t1, t2, t3, t4, t5, t6⟩ := hg.1.tb w1
      have vv := m_valueAt hg.1 hg.2.1 hr hc
      have step : ∀ kb2 kb, F_X7_lookAt_24B kb2 (nI r) kb (nI c, g) = if sL S (sB S r) c = 0 then kb (nI (c + 1), g) else if jc S r c = 0 then kb (nI (c + 1), g) else kb (nI (c + 1), si g 28 r (nI (lkc S r c) ||| (1 <<< (cd 0 (jc S r c) &&& 31)))) := by
        intro kb2 kb
        unfold F_X7_lookAt_24B F_X7_lookAt_73
        dsimp only
        rw [m_tableAt hg.1 hg.2.1 hr, Option.bind_some, ck_true (inB_nI (by omega) (by decide)), nI_clamp (by omega), t3, if_neg (nI_ge hc (by omega)), m_isLink hg.1 hg.2.1 hr hc, Option.bind_some, vv, Option.bind_some, Option.bind_some, lt_def, nI_1]
        simp only [ck_true (inB_nI (show r < 16 by omega) (by decide)), nI_clamp (show r < 2 ^ 31 by omega), lt_def, nI_1, cd_neg (show 0 + jc S r c < 2 ^ 31 by have := hg.1.jc1 (c := c) hr; omega), j2]
        by_cases q1 : sL S (sB S r) c = 0
        · rw [if_pos q1, if_pos q1, if_pos rfl]
        · rw [if_neg q1, if_neg q1, if_neg (by decide)]
      by_cases c1 : 0 < sL S (sB S r) c ∧ 0 < jc S r c
      · have hle := jc_link hc c1.1
        obtain ⟨j, hj⟩ : ∃ j, jc S r c = j + 1 := ⟨jc S r c - 1, by omega⟩
        refine ⟨(nI (c + 1), si g 28 r (nI (lkc S r (c + 1)))), ⟨rfl, j1.si (by decide), gi_same, fun q hq => ?_⟩, fun kb2 kb => ?_⟩
        · show gi (si g 28 r _) 28 q = _
          rw [gi_si, if_neg (by omega)]; exact j3 q hq
        · rw [step, if_neg (by omega), if_neg (by omega), hj, cd0S, shl1 (by omega), nI_or]
          simp only [lkc]
          rw [if_pos ⟨hc, c1⟩, hj, Nat.add_sub_cancel]
      · have elk : lkc S r (c + 1) = lkc S r c := by simp only [lkc]; rw [if_neg (fun q => c1 q.2)]
        refine ⟨(nI (c + 1), g), ⟨rfl, j1, by rw [elk]; exact j2, j3⟩, fun kb2 kb => ?_⟩
        rw [step]
        by_cases q1 : sL S (sB S r) c = 0
        · rw [if_pos q1]
        · rw [if_neg q1, if_pos (by omega)]) (fun s hI k kb => by
      obtain ⟨y, g⟩ := s
      obtain ⟨hy, j1, _⟩ := hI
      dsimp only at hy j1
      subst hy
      have hg := h.lk j1
      obtain ⟨t1, t2, t3, t4, t5, t6⟩ := hg.1.tb w1
      unfold F_X7_lookAt_24B
      dsimp only
      rw [m_tableAt hg.1 hg.2.1 hr, Option.bind_some, ck_true (inB_nI (by omega) (by decide)), nI_clamp (by omega), t3, if_pos (nI_le (Nat.le_refl _) (by omega)), lt_def, nI_1]) (sC S (sB S r)) 0 FU (0, si g 28 r 0) (by omega) (by show sC S (sB S r) < 70000; omega) ⟨rfl, i1.si (by decide), gi_same, fun q hq => by
        show gi (si g 28 r 0) 28 q = _
        rw [gi_si, if_neg (by omega)]; exact i2 q hq⟩
    obtain ⟨⟨y, g'⟩, ⟨hy, k1, k2, k3⟩, k4⟩ := hi
    dsimp only at hy k1 k2 k3 k4
    refine ⟨(nI (r + 1), g'), ⟨rfl, k1, fun q hq => ?_⟩, fun kb => ?_⟩
    · by_cases e : q = r
      · subst e
        have := lkc_top S q (5 - sC S (sB S q))
        rw [show sC S (sB S q) + (5 - sC S (sB S q)) = 5 by omega] at this
        rw [this]; exact k2
      · exact k3 q (by omega)
    · have hg := h.lk i1
      unfold F_X7_lookAt_2B
      dsimp only
      rw [hg.2.1, ck_true (inB_nI n16.2.2.2.1 (by decide)), nI_clamp (by omega), hg.1.r16.2.2.1, if_neg (nI_ge hr (by omega)), ck_true (inB_nI (by omega) (by decide)), nI_clamp (by omega), lt_def]
      exact k4 kb
  · obtain ⟨x, g⟩ := s
    obtain ⟨hx, i1, _⟩ := hI
    dsimp only at hx i1
    subst hx
    have hg := h.lk i1
    unfold F_X7_lookAt_2B
    dsimp only
    rw [hg.2.1, ck_true (inB_nI n16.2.2.2.1 (by decide)), nI_clamp (by omega), hg.1.r16.2.2.1, if_pos (nI_le (Nat.le_refl _) (by omega))]
/-- asked of one row -/
theorem m_asked (h : MB gx gm S b wb D P N z G) {k r : Nat} (hk : k < dW D) (hr : r < sR S) : ∃ g', (∀ kb87 kb119, F_X7_lookAt_176 kb87 kb119 (nI k) (nI (10 * wb + k)) (nI r) gm = kb119 (nI (r + 1), g')) ∧ LK gm g' ∧ gi g' 30 (16 * k + r) = nI (asD S D G k r) ∧ (∀ a i, ¬ (a = 30 ∧ i = 16 * k + r) → gi g' a i = gi gm a i) := by
  have n16 := h.1.r16
  obtain ⟨h1, h23, hwb, h37, h14, hDS, hDK, hP, hN, hG, h49⟩ := h
  have hW10 := hDS.1
  obtain ⟨d1, d2, d3, d4⟩ := hDK k hk
  obtain ⟨s1, s2, s3, s4, s5, s6⟩ := hDS.2 k hk
  obtain ⟨w1, _⟩ := h1.rw hr
  have pre : ∀ kb87 kb119, F_X7_lookAt_176 kb87 kb119 (nI k) (nI (10 * wb + k)) (nI r) gm = fixN (F_X7_lookAt_191B kb87 kb119 (nI k) (nI (10 * wb + k)) (nI r)) FU (0, si gm 30 (16 * k + r) 0) := by
    intro kb87 kb119
    unfold F_X7_lookAt_176
    rw [l16, nI_add, ck_true (inB_nI (by omega) (by decide)), nI_clamp (by omega), lt_def]
  have hmb : ∀ g, LK gm g → MB gx g S b wb D P N z G := fun g hg => MB.lk ⟨h1, h23, hwb, h37, h14, hDS, hDK, hP, hN, hG, h49⟩ hg
  have eT : (nI (5 * b + sB S r) = nI (5 * b + dT D k)) ↔ sB S r = dT D k := by rw [nI_eq (by omega) (by omega)]; omega
  by_cases hlaw : dL D k = true ∧ sB S r = dT D k
  · -- a law, and a row of its first table
    obtain ⟨hl, hB⟩ := hlaw
    obtain ⟨e17, e18⟩ := d3 hl
    obtain ⟨u1, u2, u3, u4⟩ := s6 hl
    have hi := fix_toK (B := fun (kk : (Int32 × GM → Option GM) × (Int32 × GM → Option GM)) => F_X7_lookAt_191B kk.1 kk.2 (nI k) (nI (10 * wb + k)) (nI r)) (I := fun q s => s.1 = nI q ∧ LK gm s.2 ∧ gi s.2 30 (16 * k + r) = nI (bs (fun x => (decide (sB S x = dS D k) && decide (jc S x (dC D k) = r + 1)) && !G.testBit x) q) ∧ ∀ a i, ¬ (a = 30 ∧ i = 16 * k + r) → gi s.2 a i = gi gm a i) (E := fun kk s => kk.2 (nI (r + 1), s.2)) (sR S) (fun q s hq hI => by
      obtain ⟨y, g⟩ := s
      obtain ⟨hy, j1, j2, j3⟩ := hI
      dsimp only at hy j1 j2 j3
      subst hy
      obtain ⟨g1, g23, _, g37, g14, _, _, _, _, _, g49⟩ := hmb g j1
      obtain ⟨x1, _⟩ := g1.rw hq
      have eU : (nI (5 * b + sB S q) = nI (5 * b + dS D k)) ↔ sB S q = dS D k := by rw [nI_eq (by omega) (by omega)]; omega
      have f17 : gi g 17 (10 * wb + k) = nI (5 * b + dS D k) := by rw [j3 _ _ (by omega)]; exact e17
      have f18 : gi g 18 (10 * wb + k) = nI (dC D k) := by rw [j3 _ _ (by omega)]; exact e18
      have f15 : gi g 15 (10 * wb + k) = nI (5 * b + dT D k) := by rw [j3 _ _ (by omega)]; exact d1
      have step : ∀ kk : (Int32 × GM → Option GM) × (Int32 × GM → Option GM), ∀ kb, F_X7_lookAt_191B kk.1 kk.2 (nI k) (nI (10 * wb + k)) (nI r) kb (nI q, g) = if sB S q = dS D k ∧ G.testBit q = false ∧ jc S q (dC D k) = r + 1 then kb (nI (q + 1), si g 30 (16 * k + r) (gi g 30 (16 * k + r) ||| nI (2 ^ q))) else kb (nI (q + 1), g) := by
        intro kk kb
        unfold F_X7_lookAt_191B F_X7_lookAt_289
        dsimp only
        rw [g23, ck_true (inB_nI n16.2.2.2.1 (by decide)), nI_clamp (by omega), g1.r16.2.2.1, if_neg (nI_ge hq (by omega)), ck_true (inB_nI (by omega) (by decide)), nI_clamp (by omega), f17, f18, f15, if_neg (nI_pos (by omega)), m_tableAt g1 g23 hr, Option.bind_some, ck_true (inB_nI (by omega) (by decide)), if_pos (eT.mpr hB), m_tableAt g1 g23 hq, Option.bind_some, ck_true (inB_nI (by omega) (by decide)), ck_true (inB_nI (by omega) (by decide)), g49, l16, nI_add, shl1 (by omega), ck_true (inB_nI (by omega) (by decide)), ck_true (inB_nI (by omega) (by decide)), nI_clamp (by omega), lt_def, lt_def, nI_1]
        simp only [eU, bit0 (p16 n16.1 hG) (show q < 31 by omega), lt_def, nI_1]
        by_cases q1 : sB S q = dS D k
        · have vv := m_valueAt g1 g23 hq (c := dC D k) (by rw [q1]; exact u2)
          have eV : (cd 0 (jc S q (dC D k)) = nI r) ↔ jc S q (dC D k) = r + 1 := by rw [← cd0S r]; exact cd_inj2 (g1.jc1 hq) (by omega)
          rw [vv, Option.bind_some, if_pos q1]
          simp only [eV]
          by_cases q2 : G.testBit q = false
          · by_cases q3 : jc S q (dC D k) = r + 1
            · rw [if_pos q2, if_pos q3, if_pos ⟨q1, q2, q3⟩]
            · rw [if_pos q2, if_neg q3, if_neg (fun x => q3 x.2.2)]
          · rw [if_neg q2, if_neg (fun x => q2 x.2.1)]
        · rw [if_neg q1, if_neg (fun x => q1 x.1)]
      by_cases c1 : sB S q = dS D k ∧ G.testBit q = false ∧ jc S q (dC D k) = r + 1
      · refine ⟨(nI (q + 1), si g 30 (16 * k + r) (nI (bs (fun x => (decide (sB S x = dS D k) && decide (jc S x (dC D k) = r + 1)) && !G.testBit x) (q + 1)))), ⟨rfl, j1.si (by decide), gi_same, fun a i p => ?_⟩, fun kk kb => ?_⟩
        · show gi (si g 30 _ _) a i = _
          rw [gi_si, if_neg p]; exact j3 a i p
        · rw [step, if_pos c1, j2, nI_or]
          simp [bs, c1.1, c1.2.1, c1.2.2]
      · refine ⟨(nI (q + 1), g), ⟨rfl, j1, ?_, j3⟩, fun kk kb => by rw [step, if_neg c1]⟩
        show gi g 30 (16 * k + r) = _
        rw [j2]
        have : ((decide (sB S q = dS D k) && decide (jc S q (dC D k) = r + 1)) && !G.testBit q) = false := by
          apply Classical.byContradiction
          intro x
          simp at x
          exact c1 ⟨x.1, x.2.2, x.2.1⟩
        simp only [bs]
        rw [if_neg (by rw [this]; decide)]) (fun s hI kk kb => by
      obtain ⟨y, g⟩ := s
      obtain ⟨hy, j1, j2, j3⟩ := hI
      dsimp only at hy j1 j2 j3
      subst hy
      obtain ⟨g1, g23, _⟩ := hmb g j1
      unfold F_X7_lookAt_191B F_X7_lookAt_295
      dsimp only
      rw [g23, ck_true (inB_nI n16.2.2.2.1 (by decide)), nI_clamp (by omega), g1.r16.2.2.1, if_pos (nI_le (Nat.le_refl _) (by omega)), lt_def, nI_1]) (sR S) 0 FU (0, si gm 30 (16 * k + r) 0) (by omega) (by show sR S < 70000; omega) ⟨rfl, (LK.rf gm).si (by decide), gi_same, fun a i p => by
        show gi (si gm 30 _ _) a i = _
        rw [gi_si, if_neg p]⟩
    obtain ⟨⟨y, g'⟩, ⟨_, k1, k2, k3⟩, k4⟩ := hi
    dsimp only at k1 k2 k3 k4
    refine ⟨g', fun kb87 kb119 => by rw [pre]; exact k4 (kb87, kb119), k1, ?_, k3⟩
    rw [k2]
    unfold asD
    rw [if_pos ⟨hl, hB⟩]
    congr 1
    apply Nat.eq_of_testBit_eq
    intro i
    unfold lkr
    rw [bs_bit, adn_bit, bs_bit]
    cases decide (i < sR S) <;> simp
  · -- nothing
    have g1 : SS 6 b gx (si gm 30 (16 * k + r) 0) S := h1.mm (fun a i p q => by rw [gi_si, if_neg (by omega)]) (fun _ _ => rfl)
    have e23 : gi (si gm 30 (16 * k + r) 0) 0 23 = nI b := by rw [gi_si, if_neg (by omega)]; exact h23
    refine ⟨si gm 30 (16 * k + r) 0, fun kb87 kb119 => ?_, (LK.rf gm).si (by decide), ?_, fun a i p => by rw [gi_si, if_neg p]⟩
    · rw [pre]
      have st : ∀ kb, F_X7_lookAt_191B kb87 kb119 (nI k) (nI (10 * wb + k)) (nI r) kb (0, si gm 30 (16 * k + r) 0) = kb119 (nI (r + 1), si gm 30 (16 * k + r) 0) := by
        intro kb
        have a17 : gi (si gm 30 (16 * k + r) 0) 17 (10 * wb + k) = gi gm 17 (10 * wb + k) := by rw [gi_si, if_neg (by omega)]
        have a15 : gi (si gm 30 (16 * k + r) 0) 15 (10 * wb + k) = gi gm 15 (10 * wb + k) := by rw [gi_si, if_neg (by omega)]
        unfold F_X7_lookAt_191B F_X7_lookAt_295
        dsimp only
        rw [e23, ck_true (inB_nI n16.2.2.2.1 (by decide)), nI_clamp (by omega), g1.r16.2.2.1, lt_def, nI_1, ck_true (inB_nI (by omega) (by decide)), nI_clamp (by omega), a17, m_tableAt g1 e23 hr, Option.bind_some, ck_true (inB_nI (by omega) (by decide)), a15, d1]
        by_cases q : dL D k = true
        · rw [if_neg (fun x => hlaw ⟨q, eT.mp x⟩)]
          split
          · rfl
          · split <;> rfl
        · have q' : dL D k = false := by simpa using q
          rw [(d4 q').1, if_pos (show (-1 : Int32) < 0 by decide)]
          split <;> rfl
      exact st (fixN (F_X7_lookAt_191B kb87 kb119 (nI k) (nI (10 * wb + k)) (nI r)) 69999)
    · rw [gi_same]
      unfold asD
      rw [if_neg hlaw]
      rfl
end LOOK
