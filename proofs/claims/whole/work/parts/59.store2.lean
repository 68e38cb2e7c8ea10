/-! store(): its beginning and its end -/
def SS (B b : Nat) (gx gm : GM) (S : St) : Prop := RT B b gx gm S ∧ RRw B b gx gm S ∧ JC B gx S ∧ NB S (sR S * 5) ∧ ∀ r, r < sR S → gi gx (B + 10) r = nI (lkc S r 5)
theorem SS.mv {B B' b : Nat} {gx gm gx' gm' : GM} {S : St} (h : SS B b gx gm S) (hx : ∀ a i, a ≤ 10 → gi gx' (B' + a) i = gi gx (B + a) i ∧ gl gx' (B' + a) i = gl gx (B + a) i) (hm : AgM b gm gm') : SS B' b gx' gm' S := by
  obtain ⟨⟨h1, h2, h3, h4, h5⟩, ⟨r1, r2, r3, r4, r5⟩, hJ, hN, hL⟩ := h
  have x0 : ∀ i, gi gx' B' i = gi gx B i := fun i => (hx 0 i (by decide)).1
  refine ⟨⟨h1, h2, by rw [x0]; exact h3, by rw [(hm _ _ (by unfold BKm; omega)).1]; exact h4, fun t ht => ?_⟩, ⟨r1, by rw [x0]; exact r2, by rw [(hm _ _ (by unfold BKm; omega)).1]; exact r3, fun r hr => ?_, r5⟩, fun r c hc hr => ?_, hN, fun r hr => ?_⟩
  · obtain ⟨a1, a2, a3, a4, a5, a6, a7, a8⟩ := h5 t ht
    refine ⟨a1, a2, ?_, ?_, ?_, ?_, ?_, fun c hc => ?_⟩
    · rw [(hx _ _ (by omega)).2, (hm _ _ (by unfold BKm; omega)).2]; exact a3
    · rw [(hx _ _ (by omega)).1]; exact a4
    · rw [(hm _ _ (by unfold BKm; omega)).1]; exact a5
    · rw [(hx _ _ (by omega)).1]; exact a6
    · rw [(hm _ _ (by unfold BKm; omega)).1]; exact a7
    · obtain ⟨c1, c2, c3, c4⟩ := a8 c hc
      refine ⟨?_, c2, ?_, ?_⟩
      · rw [(hx _ _ (by omega)).2, (hm _ _ (by unfold BKm; omega)).2]; exact c1
      · rw [(hx _ _ (by omega)).1]; exact c3
      · rw [(hm _ _ (by unfold BKm; omega)).1]; exact c4
  · obtain ⟨a1, a2, a3, a4, a5, a6, a7⟩ := r4 r hr
    have hC := (h5 _ a1).1
    refine ⟨a1, a2, ?_, ?_, ?_, ?_, fun c hc => ⟨(a7 c hc).1, ?_⟩⟩
    · rw [(hx _ _ (by omega)).1]; exact a3
    · rw [(hm _ _ (by unfold BKm; omega)).1]; exact a4
    · rw [(hx _ _ (by omega)).1]; exact a5
    · rw [(hm _ _ (by unfold BKm; omega)).1]; exact a6
    · rw [(hm _ _ (by unfold BKm; omega)).1]; exact (a7 c hc).2
  · rw [(hx _ _ (by omega)).1]; exact hJ r c hc hr
  · rw [(hx _ _ (by omega)).1]; exact hL r hr
/-- the tapes -/
def TP (gx gm : GM) (len : Nat) (tx : Nat → Nat) : Prop := len ≤ 1200 ∧ gi gx 1 2 = nI len ∧ gi gm 0 2 = nI len ∧ ∀ j, j < len → tx j < 256 ∧ gi gx 2 j = sx (tx j) ∧ gi gm 1 j = sx (tx j)
def PK (a i : Nat) : Prop := (a = 0 ∧ (i = 2 ∨ i = 3 ∨ i = 4 ∨ i = 5 ∨ i = 7 ∨ i = 11)) ∨ a = 2
theorem m_takeTape {gx gm : GM} {len : Nat} {tx : Nat → Nat} (h : TP gx gm len tx) {w : Bool} : ∃ gm', F_X7_takeTape (if w then 1 else 0) gm = some gm' ∧ MTx gm' len tx ∧ gi gm' 0 11 = (if w then 1 else 0) ∧ gi gm' 0 4 = 0 ∧ gi gm' 0 5 = -1 ∧ gi gm' 0 2 = 0 ∧ gi gm' 0 7 = 0 ∧ Ow PK (fun _ _ => False) gm gm' := by
  obtain ⟨h1, h2, h3, h4⟩ := h
  let g4 : GM := si (si (si (si gm 0 11 (if w then 1 else 0)) 0 4 0) 0 5 (-1)) 0 3 (nI len)
  have o4 : Ow PK (fun _ _ => False) gm g4 := ((((Ow.rf gm).si (Or.inl ⟨rfl, by omega⟩)).si (Or.inl ⟨rfl, by omega⟩)).si (Or.inl ⟨rfl, by omega⟩)).si (Or.inl ⟨rfl, by omega⟩)
  have hl := fix_to (B := F_X7_takeTape_25B) (I := fun i s => s.1 = nI i ∧ (∀ a k, ¬ a = 2 → gi s.2 a k = gi g4 a k) ∧ (∀ a k, gl s.2 a k = gl g4 a k) ∧ ∀ j, j < i → gi s.2 2 j = sx (tx j)) (E := fun s => some (si (si s.2 0 2 0) 0 7 0)) len (fun i s hi hI => ?_) (fun s hI kb => ?_) len 0 FU (0, g4) (by omega) (by show len < 70000; omega) ⟨rfl, fun _ _ _ => rfl, fun _ _ => rfl, fun j hj => by omega⟩
  · obtain ⟨⟨x, g⟩, ⟨hx, i1, i2, i3⟩, he⟩ := hl
    dsimp only at hx i1 i2 i3 he
    have e3 : gi g 0 3 = nI len := by rw [i1 _ _ (by decide)]; show gi g4 0 3 = nI len; exact gi_same
    refine ⟨si (si g 0 2 0) 0 7 0, ?_, ⟨h1, ?_, fun j hj => ⟨(h4 j hj).1, ?_⟩⟩, ?_, ?_, ?_, ?_, ?_, fun a k hP => ?_, fun a k _ => ?_⟩
    · unfold F_X7_takeTape
      have hz : isZ (if w then (1 : Int32) else 0) = true := by cases w <;> rfl
      have c2 : gi (si (si (si gm 0 11 (if w then 1 else 0)) 0 4 0) 0 5 (-1)) 0 2 = nI len := by rw [gi_si, if_neg (by decide), gi_si, if_neg (by decide), gi_si, if_neg (by decide)]; exact h3
      rw [ck_true hz, lt_def, lt_def, lt_def, c2, lt_def]
      exact he
    · rw [gi_si, if_neg (by decide), gi_si, if_neg (by decide)]; exact e3
    · rw [gi_si, if_neg (by omega), gi_si, if_neg (by omega)]; exact i3 j hj
    · rw [gi_si, if_neg (by decide), gi_si, if_neg (by decide), i1 _ _ (by decide)]
      show gi (si (si (si (si gm 0 11 (if w then 1 else 0)) 0 4 0) 0 5 (-1)) 0 3 (nI len)) 0 11 = _
      rw [gi_si, if_neg (by decide), gi_si, if_neg (by decide), gi_si, if_neg (by decide), gi_same]
    · rw [gi_si, if_neg (by decide), gi_si, if_neg (by decide), i1 _ _ (by decide)]
      show gi (si (si (si (si gm 0 11 (if w then 1 else 0)) 0 4 0) 0 5 (-1)) 0 3 (nI len)) 0 4 = _
      rw [gi_si, if_neg (by decide), gi_si, if_neg (by decide), gi_same]
    · rw [gi_si, if_neg (by decide), gi_si, if_neg (by decide), i1 _ _ (by decide)]
      show gi (si (si (si (si gm 0 11 (if w then 1 else 0)) 0 4 0) 0 5 (-1)) 0 3 (nI len)) 0 5 = _
      rw [gi_si, if_neg (by decide), gi_same]
    · rw [gi_si, if_neg (by decide), gi_same]
    · rw [gi_same]
    · unfold PK at hP
      rw [gi_si, if_neg (by omega), gi_si, if_neg (by omega), i1 _ _ (by omega)]
      exact o4.1 a k (by unfold PK; omega)
    · rw [gl_si, gl_si, i2]; exact o4.2 a k (fun q => q)
  · obtain ⟨x, g⟩ := s
    obtain ⟨hx, i1, i2, i3⟩ := hI
    dsimp only at hx i1 i2 i3
    subst hx
    obtain ⟨b1, b2, b3⟩ := h4 i hi
    have e3 : gi g 0 3 = nI len := by rw [i1 _ _ (by decide)]; exact gi_same
    have e1 : gi g 1 i = sx (tx i) := by rw [i1 _ _ (by decide), o4.1 _ _ (by unfold PK; omega)]; exact b3
    refine ⟨(nI (i + 1), si g 2 i (sx (tx i))), ⟨rfl, fun a k ha => ?_, fun a k => i2 a k, fun j hj => ?_⟩, fun kb => ?_⟩
    · show gi (si g 2 i _) a k = _
      rw [gi_si, if_neg (by omega)]; exact i1 a k ha
    · show gi (si g 2 i _) 2 j = _
      by_cases e : j = i
      · subst e; rw [gi_same]
      · rw [gi_si, if_neg (by omega)]; exact i3 j (by omega)
    · unfold F_X7_takeTape_25B
      dsimp only
      rw [e3, if_neg (nI_ge hi (by omega)), ck_true (inB_nI (by omega) (by decide)), ck_true (inB_nI (by omega) (by decide)), nI_clamp (by omega), e1, sx_i8 _ b1, lt_def, lt_def, nI_1]
  · obtain ⟨x, g⟩ := s
    obtain ⟨hx, i1, i2, i3⟩ := hI
    dsimp only at hx i1
    subst hx
    have e3 : gi g 0 3 = nI len := by rw [i1 _ _ (by decide)]; exact gi_same
    unfold F_X7_takeTape_25B
    dsimp only
    rw [e3, if_pos (nI_le (Nat.le_refl _) (by omega)), lt_def, lt_def]
def PO (a b : Nat) : Prop := a = 1 ∧ 3 ≤ b ∧ b ≤ 10
theorem s_open {gx gm : GM} {len : Nat} {tx : Nat → Nat} {w : Bool} (hX : XTx gx len tx) (hr : RsX gx) (hM : MTx gm len tx) (h7 : gi gm 0 7 = 0) (h4 : gi gm 0 4 = 0) (h5 : gi gm 0 5 = -1) (hw : gi gm 0 11 = if w then 1 else 0) :
    ∃ gx' gm' t s e, F_X4_open (if w then 1 else 0) gx = some gx' ∧ F_X7_next gm = some gm' ∧ Sy gx' gm' len tx w t s e ∧ Ow PO QT gx gx' ∧ Ow PTm QTm gm gm' := by
  let g1 : GM := si (si (si (si gx 1 3 (if w then 2 else 1)) 1 9 0) 1 10 (-1)) 1 4 0
  have hX1 : XTx g1 len tx := (((hX.si (by decide)).si (by decide)).si (by decide)).si (by decide)
  have o1 : Ow PO QT gx g1 := ((((Ow.rf gx).si ⟨rfl, by omega, by omega⟩).si ⟨rfl, by omega, by omega⟩).si ⟨rfl, by omega, by omega⟩).si ⟨rfl, by omega, by omega⟩
  have c3 : gi g1 1 3 = (if w then 2 else 1) := by
    show gi (si (si (si (si gx 1 3 (if w then 2 else 1)) 1 9 0) 1 10 (-1)) 1 4 0) 1 3 = _
    rw [gi_si, if_neg (by decide), gi_si, if_neg (by decide), gi_si, if_neg (by decide), gi_same]
  have c9 : gi g1 1 9 = 0 := by
    show gi (si (si (si (si gx 1 3 (if w then 2 else 1)) 1 9 0) 1 10 (-1)) 1 4 0) 1 9 = _
    rw [gi_si, if_neg (by decide), gi_si, if_neg (by decide), gi_same]
  have c10 : gi g1 1 10 = -1 := by
    show gi (si (si (si (si gx 1 3 (if w then 2 else 1)) 1 9 0) 1 10 (-1)) 1 4 0) 1 10 = _
    rw [gi_si, if_neg (by decide), gi_same]
  have c4 : gi g1 1 4 = nI 0 := gi_same
  obtain ⟨t, s, e, gx', gm', a1, a2, a3, a4, a5, a6, a7, a8, a9, a10, a11⟩ := adv (p := 0) hX1 hM c4 h7 (Nat.zero_le _) c3 hw (show RsX g1 from hr)
  refine ⟨gx', gm', t, s, e, ?_, a2, ⟨hX1.fr a10, hM.fr a11, (show Sg g1 gm w from ⟨c3, hw, hr⟩).fr a10 a11, a3, a4, ⟨a6, a7, a8, a9⟩, ?_, ?_, ?_, ?_⟩, ?_, a11.ow⟩
  · have eO : F_X4_open (if w then 1 else 0) gx = F_X4_open_12 (if w then 2 else 1) gx := by cases w <;> rfl
    have hz : nzB (if w then (2 : Int32) else 1) = true := by cases w <;> rfl
    rw [eO]
    unfold F_X4_open_12
    rw [ck_true hz, lt_def, lt_def, lt_def, lt_def]
    have a1' : F_X4_advance (si (si (si (si gx 1 3 (if w then 2 else 1)) 1 9 0) 1 10 (-1)) 1 4 0) = some gx' := a1
    rw [a1', Option.bind_some]
  · rw [a10.1 _ _ (by omega)]; exact c9
  · rw [a11.1 _ _ (by omega)]; exact h4
  · rw [a10.1 _ _ (by omega)]; exact c10
  · rw [a11.1 _ _ (by omega)]; exact h5
  · exact o1.tr (a10.ow.mono (fun a b q => ⟨q.1, by have := q.2; omega, by have := q.2; omega⟩) (fun a b q => q))
theorem x_fill25 (g : GM) : ∃ g', F_J7_fill_53178_25 (-1) g = some g' ∧ (∀ a i, ¬ a = 25 → gi g' a i = gi g a i) ∧ (∀ a i, gl g' a i = gl g a i) ∧ ∀ j, j < 80 → gi g' 25 j = -1 := by
  have hl := fix_to (B := F_J7_fill_53178_25_5B (-1) 80) (I := fun i s => s.1 = nI i ∧ (∀ a k, ¬ a = 25 → gi s.2 a k = gi g a k) ∧ (∀ a k, gl s.2 a k = gl g a k) ∧ ∀ j, j < i → gi s.2 25 j = -1) (E := fun s => some s.2) 80 (fun i s hi hI => ?_) (fun s hI kb => ?_) 80 0 FU (0, g) rfl (by decide) ⟨rfl, fun _ _ _ => rfl, fun _ _ => rfl, fun j hj => by omega⟩
  · obtain ⟨⟨x, g'⟩, ⟨_, i1, i2, i3⟩, he⟩ := hl
    exact ⟨g', he, i1, i2, i3⟩
  · obtain ⟨x, g'⟩ := s
    obtain ⟨hx, i1, i2, i3⟩ := hI
    dsimp only at hx i1 i2 i3
    subst hx
    refine ⟨(nI (i + 1), si g' 25 i (-1)), ⟨rfl, fun a k ha => ?_, fun a k => i2 a k, fun j hj => ?_⟩, fun kb => ?_⟩
    · show gi (si g' 25 i _) a k = _
      rw [gi_si, if_neg (by omega)]; exact i1 a k ha
    · show gi (si g' 25 i _) 25 j = _
      by_cases e : j = i
      · subst e; rw [gi_same]
      · rw [gi_si, if_neg (by omega)]; exact i3 j (by omega)
    · unfold F_J7_fill_53178_25_5B
      dsimp only
      rw [if_neg (show ¬ (80 : Int32) ≤ nI i from nI_ge (a := i) (b := 80) hi (by decide)), ck_true (inB_nI hi (by decide)), nI_clamp (by omega), lt_def, lt_def, nI_1]
  · obtain ⟨x, g'⟩ := s
    obtain ⟨hx, _⟩ := hI
    dsimp only at hx
    subst hx
    unfold F_J7_fill_53178_25_5B
    dsimp only
    rw [if_pos (by decide)]
theorem x_fill4 (g : GM) : ∃ g', F_J7_fill_53178_4 (-1) g = some g' ∧ (∀ a i, ¬ a = 4 → gi g' a i = gi g a i) ∧ (∀ a i, gl g' a i = gl g a i) ∧ ∀ j, j < 25 → gi g' 4 j = -1 := by
  have hl := fix_to (B := F_J7_fill_53178_4_5B (-1) 25) (I := fun i s => s.1 = nI i ∧ (∀ a k, ¬ a = 4 → gi s.2 a k = gi g a k) ∧ (∀ a k, gl s.2 a k = gl g a k) ∧ ∀ j, j < i → gi s.2 4 j = -1) (E := fun s => some s.2) 25 (fun i s hi hI => ?_) (fun s hI kb => ?_) 25 0 FU (0, g) rfl (by decide) ⟨rfl, fun _ _ _ => rfl, fun _ _ => rfl, fun j hj => by omega⟩
  · obtain ⟨⟨x, g'⟩, ⟨_, i1, i2, i3⟩, he⟩ := hl
    exact ⟨g', he, i1, i2, i3⟩
  · obtain ⟨x, g'⟩ := s
    obtain ⟨hx, i1, i2, i3⟩ := hI
    dsimp only at hx i1 i2 i3
    subst hx
    refine ⟨(nI (i + 1), si g' 4 i (-1)), ⟨rfl, fun a k ha => ?_, fun a k => i2 a k, fun j hj => ?_⟩, fun kb => ?_⟩
    · show gi (si g' 4 i _) a k = _
      rw [gi_si, if_neg (by omega)]; exact i1 a k ha
    · show gi (si g' 4 i _) 4 j = _
      by_cases e : j = i
      · subst e; rw [gi_same]
      · rw [gi_si, if_neg (by omega)]; exact i3 j (by omega)
    · unfold F_J7_fill_53178_4_5B
      dsimp only
      rw [if_neg (show ¬ (25 : Int32) ≤ nI i from nI_ge (a := i) (b := 25) hi (by decide)), ck_true (inB_nI hi (by decide)), nI_clamp (by omega), lt_def, lt_def, nI_1]
  · obtain ⟨x, g'⟩ := s
    obtain ⟨hx, _⟩ := hI
    dsimp only at hx
    subst hx
    unfold F_J7_fill_53178_4_5B
    dsimp only
    rw [if_pos (by decide)]
/-- the end of the reference's store() -/
theorem m_store135 {gm : GM} {b wb : Nat} (hb : b < 2) (hwb : wb < 2) (hg : gi gm 0 4 = 0) (hrb : gi gm 0 24 = nI b) (h37 : gi gm 0 37 = nI wb) : ∃ gm', F_X7_store_135 gm = some (gi gm 13 b, gm') ∧ gi gm' 0 23 = nI b ∧ gi gm' 14 wb = 0 ∧ gi gm' 0 50 = 0 ∧ gi gm' 0 49 = 0 ∧ gi gm' 0 52 = 0 ∧ (∀ j, j < 25 → gi gm' 32 j = -1) ∧ Ow (fun a i => (a = 0 ∧ (i = 23 ∨ i = 50 ∨ i = 49 ∨ i = 52)) ∨ (a = 14 ∧ i = wb) ∨ a = 32) (fun _ _ => False) gm gm' := by
  let g4 : GM := si (si (si (si gm 0 23 (nI b)) 14 wb 0) 0 50 0) 0 49 0
  have c23 : gi g4 0 23 = nI b := by
    show gi (si (si (si (si gm 0 23 (nI b)) 14 wb 0) 0 50 0) 0 49 0) 0 23 = _
    rw [gi_si, if_neg (by decide), gi_si, if_neg (by decide), gi_si, if_neg (by omega), gi_same]
  have o4 : ∀ a k, ¬ (a = 0 ∧ (k = 23 ∨ k = 50 ∨ k = 49)) → ¬ (a = 14 ∧ k = wb) → gi g4 a k = gi gm a k := by
    intro a k h1 h2
    show gi (si (si (si (si gm 0 23 (nI b)) 14 wb 0) 0 50 0) 0 49 0) a k = _
    rw [gi_si, if_neg (by omega), gi_si, if_neg (by omega), gi_si, if_neg h2, gi_si, if_neg (by omega)]
  have hl := fix_to (B := F_X7_store_174B) (I := fun i s => s.1 = nI i ∧ (∀ a k, ¬ a = 32 → gi s.2 a k = gi g4 a k) ∧ (∀ a k, gl s.2 a k = gl g4 a k) ∧ ∀ j, j < i → gi s.2 32 j = -1) (E := fun s => some (gi gm 13 b, si s.2 0 52 0)) 25 (fun i s hi hI => ?_) (fun s hI kb => ?_) 25 0 FU (0, g4) rfl (by decide) ⟨rfl, fun _ _ _ => rfl, fun _ _ => rfl, fun j hj => by omega⟩
  · obtain ⟨⟨x, g'⟩, ⟨_, i1, i2, i3⟩, he⟩ := hl
    dsimp only at i1 i2 i3 he
    have h37' : gi (si gm 0 23 (nI b)) 0 37 = nI wb := by rw [gi_si, if_neg (by decide)]; exact h37
    refine ⟨si g' 0 52 0, ?_, ?_, ?_, ?_, ?_, gi_same, fun j hj => ?_, fun a k hq => ?_, fun a k _ => ?_⟩
    · unfold F_X7_store_135
      rw [m_good hg, Option.bind_some, if_neg (by decide), hrb, lt_def, h37', ck_true (inB_nI hwb (by decide)), nI_clamp (by omega), lt_def, lt_def, lt_def]
      exact he
    · rw [gi_si, if_neg (by decide), i1 _ _ (by decide)]; exact c23
    · rw [gi_si, if_neg (by omega), i1 _ _ (by decide)]
      show gi (si (si (si (si gm 0 23 (nI b)) 14 wb 0) 0 50 0) 0 49 0) 14 wb = _
      rw [gi_si, if_neg (by omega), gi_si, if_neg (by omega), gi_same]
    · rw [gi_si, if_neg (by decide), i1 _ _ (by decide)]
      show gi (si (si (si (si gm 0 23 (nI b)) 14 wb 0) 0 50 0) 0 49 0) 0 50 = _
      rw [gi_si, if_neg (by omega), gi_same]
    · rw [gi_si, if_neg (by decide), i1 _ _ (by decide)]
      exact gi_same
    · rw [gi_si, if_neg (by omega)]; exact i3 j hj
    · rw [gi_si, if_neg (by omega), i1 _ _ (by omega)]
      exact o4 a k (by omega) (by omega)
    · rw [gl_si, i2]; rfl
  · obtain ⟨x, g'⟩ := s
    obtain ⟨hx, i1, i2, i3⟩ := hI
    dsimp only at hx i1 i2 i3
    subst hx
    refine ⟨(nI (i + 1), si g' 32 i (-1)), ⟨rfl, fun a k ha => ?_, fun a k => i2 a k, fun j hj => ?_⟩, fun kb => ?_⟩
    · show gi (si g' 32 i _) a k = _
      rw [gi_si, if_neg (by omega)]; exact i1 a k ha
    · show gi (si g' 32 i _) 32 j = _
      by_cases e : j = i
      · subst e; rw [gi_same]
      · rw [gi_si, if_neg (by omega)]; exact i3 j (by omega)
    · unfold F_X7_store_174B
      dsimp only
      rw [if_neg (show ¬ (25 : Int32) ≤ nI i from nI_ge (a := i) (b := 25) hi (by decide)), ck_true (inB_nI hi (by decide)), nI_clamp (by omega), lt_def, lt_def, nI_1]
  · obtain ⟨x, g'⟩ := s
    obtain ⟨hx, i1, _⟩ := hI
    dsimp only at hx i1
    subst hx
    have e23 : gi (si g' 0 52 0) 0 23 = nI b := by rw [gi_si, if_neg (by decide), i1 _ _ (by decide)]; exact c23
    have e13 : gi (si g' 0 52 0) 13 b = gi gm 13 b := by rw [gi_si, if_neg (by omega), i1 _ _ (by decide)]; exact o4 _ _ (by omega) (by omega)
    unfold F_X7_store_174B
    dsimp only
    rw [if_pos (by decide), lt_def, e23, ck_true (inB_nI hb (by decide)), nI_clamp (by omega), e13]
