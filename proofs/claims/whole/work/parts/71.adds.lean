/-! the class's demands: one more -/
def raw (n _h : Nat) : Nat := n
theorem adn_0 (f : Nat) : adn f 0 = f := by
  apply Nat.eq_of_testBit_eq
  intro i
  rw [adn_bit, Nat.zero_testBit]; simp
section ADDS
variable {gx gm : GM} {b : Nat} {S : St} {D : Dm}
def gxD (gx : GM) (W : Nat) (x1 x2 x3 : Int32) : GM := si (si (si (si gx 36 W x1) 37 W x2) 38 W x3) 35 0 (nI (W + 1))
theorem gxD_ok (gx : GM) (W : Nat) (x1 x2 x3 : Int32) : gi (gxD gx W x1 x2 x3) 35 0 = nI (W + 1) ∧ gi (gxD gx W x1 x2 x3) 36 W = x1 ∧ gi (gxD gx W x1 x2 x3) 37 W = x2 ∧ gi (gxD gx W x1 x2 x3) 38 W = x3 ∧ (∀ a i, ¬ (a = 35 ∧ i = 0) → ¬ (36 ≤ a ∧ a ≤ 38 ∧ i = W) → gi (gxD gx W x1 x2 x3) a i = gi gx a i) ∧ ∀ a i, gl (gxD gx W x1 x2 x3) a i = gl gx a i := by
  unfold gxD
  refine ⟨gi_same, ?_, ?_, ?_, fun a i h1 h2 => ?_, fun _ _ => rfl⟩
  · rw [gi_si, if_neg (by omega), gi_si, if_neg (by omega), gi_si, if_neg (by omega), gi_same]
  · rw [gi_si, if_neg (by omega), gi_si, if_neg (by omega), gi_same]
  · rw [gi_si, if_neg (by omega), gi_same]
  · rw [gi_si, if_neg h1, gi_si, if_neg (by omega), gi_si, if_neg (by omega), gi_si, if_neg (by omega)]
theorem x_addDemand {W : Nat} {x1 x2 x3 : Int32} (h : gi gx 35 0 = nI W) (hW : W < 10) (hz : isZ x1 = true) : F_X1_addDemand_e x1 x2 x3 gx = some (gxD gx W x1 x2 x3) := by
  unfold F_X1_addDemand_e gxD
  have e1 : gi (si gx 36 W x1) 35 0 = nI W := by rw [gi_si, if_neg (by omega)]; exact h
  have e2 : gi (si (si gx 36 W x1) 37 W x2) 35 0 = nI W := by rw [gi_si, if_neg (by omega)]; exact e1
  have e3 : gi (si (si (si gx 36 W x1) 37 W x2) 38 W x3) 35 0 + 1 = nI (W + 1) := by rw [gi_si, if_neg (by omega), e2, nI_1]
  rw [h, if_neg (show ¬ (10 : Int32) ≤ nI W from nI_ge (a := W) (b := 10) hW (by decide)), ck_true (inB_nI hW (by decide)), ck_true hz, nI_clamp (by omega), lt_def, e1, ck_true (inB_nI hW (by decide)), nI_clamp (by omega), lt_def, e2, ck_true (inB_nI hW (by decide)), nI_clamp (by omega), lt_def, e3, lt_def]
def gxB (gx : GM) (m : Nat) (x1 x2 x3 : Int32) : GM := si (si (si (si gx 39 m x1) 40 m x2) 41 m x3) 35 4 (nI (m + 1))
theorem gxB_ok (gx : GM) (m : Nat) (x1 x2 x3 : Int32) : gi (gxB gx m x1 x2 x3) 35 4 = nI (m + 1) ∧ gi (gxB gx m x1 x2 x3) 39 m = x1 ∧ gi (gxB gx m x1 x2 x3) 40 m = x2 ∧ gi (gxB gx m x1 x2 x3) 41 m = x3 ∧ (∀ a i, ¬ (a = 35 ∧ i = 4) → ¬ (39 ≤ a ∧ a ≤ 41 ∧ i = m) → gi (gxB gx m x1 x2 x3) a i = gi gx a i) ∧ ∀ a i, gl (gxB gx m x1 x2 x3) a i = gl gx a i := by
  unfold gxB
  refine ⟨gi_same, ?_, ?_, ?_, fun a i h1 h2 => ?_, fun _ _ => rfl⟩
  · rw [gi_si, if_neg (by omega), gi_si, if_neg (by omega), gi_si, if_neg (by omega), gi_same]
  · rw [gi_si, if_neg (by omega), gi_si, if_neg (by omega), gi_same]
  · rw [gi_si, if_neg (by omega), gi_same]
  · rw [gi_si, if_neg h1, gi_si, if_neg (by omega), gi_si, if_neg (by omega), gi_si, if_neg (by omega)]
theorem x_addBond {m : Nat} {x1 x2 x3 : Int32} (h : gi gx 35 4 = nI m) (hm : m < 160) : F_X1_addBond_e x1 x2 x3 gx = some (gxB gx m x1 x2 x3) := by
  unfold F_X1_addBond_e gxB
  have e1 : gi (si gx 39 m x1) 35 4 = nI m := by rw [gi_si, if_neg (by omega)]; exact h
  have e2 : gi (si (si gx 39 m x1) 40 m x2) 35 4 = nI m := by rw [gi_si, if_neg (by omega)]; exact e1
  have e3 : gi (si (si (si gx 39 m x1) 40 m x2) 41 m x3) 35 4 + 1 = nI (m + 1) := by rw [gi_si, if_neg (by omega), e2, nI_1]
  rw [h, if_neg (show ¬ (160 : Int32) ≤ nI m from nI_ge (a := m) (b := 160) hm (by decide)), ck_true (inB_nI hm (by decide)), nI_clamp (by omega), lt_def, e1, ck_true (inB_nI hm (by decide)), nI_clamp (by omega), lt_def, e2, ck_true (inB_nI hm (by decide)), nI_clamp (by omega), lt_def, e3, lt_def]
def PDx (a _i : Nat) : Prop := 35 ≤ a ∧ a ≤ 41
theorem x_addWish (h : DX 35 gx S D raw 0) (hW : dW D < 10) {T n f : Nat} : ∃ gx', F_X1_addWish_e (nI T) (nI n) (nI f) gx = some gx' ∧ DX 35 gx' S (dAdd D false T n 0 0 f) raw 0 ∧ Ow PDx (fun _ _ => False) gx gx' := by
  obtain ⟨h1, h2, m, ow, nd, hp, h3, h4, h5, h6⟩ := h
  obtain ⟨k1, k2, k3, k4, k5, k6⟩ := gxD_ok gx (dW D) 0 (nI T) (nI f)
  obtain ⟨j1, j2, j3, j4, j5, j6⟩ := gxB_ok (gxD gx (dW D) 0 (nI T) (nI f)) m 0 (nI n) (nI f)
  have hm : m < 160 := by omega
  have e4 : gi (gxD gx (dW D) 0 (nI T) (nI f)) 35 4 = nI m := by rw [k5 _ _ (by omega) (by omega)]; exact h3
  refine ⟨gxB (gxD gx (dW D) 0 (nI T) (nI f)) m 0 (nI n) (nI f), ?_, ⟨?_, fun k hk => ?_, m + 1, upn ow m 0, upn nd m n, upn hp m f, j1, by rw [dAdd_W]; omega, fun j hj => ?_, ?_⟩, fun a i q => ?_, fun a i _ => by rw [j6, k6]⟩
  · unfold F_X1_addWish_e
    rw [x_addDemand h1 hW (by decide), Option.bind_some, x_addBond e4 hm, Option.bind_some]
  · rw [j5 _ _ (by omega) (by omega), k1]; rfl
  · rw [dAdd_W] at hk
    rw [j5 _ _ (by omega) (by omega), j5 _ _ (by omega) (by omega), j5 _ _ (by omega) (by omega)]
    by_cases e : k = dW D
    · subst e
      obtain ⟨e1, e2, e3, e4, e5, e6⟩ := dAdd_n (D := D) (l := false) (T := T) (n := n) (u := 0) (c := 0) (f := f)
      rw [e1, e2, e6]
      exact ⟨k2, k3, k4⟩
    · obtain ⟨e1, e2, e3, e4, e5, e6⟩ := dAdd_o (D := D) (l := false) (T := T) (n := n) (u := 0) (c := 0) (f := f) (k := k) (by omega)
      rw [e1, e2, e6, k5 _ _ (by omega) (by omega), k5 _ _ (by omega) (by omega), k5 _ _ (by omega) (by omega)]
      exact h2 k (by omega)
  · by_cases e : j = m
    · subst e
      rw [upn_s, upn_s, upn_s]
      exact ⟨j2, j3, j4⟩
    · rw [upn_n e, upn_n e, upn_n e, j5 _ _ (by omega) (by omega), j5 _ _ (by omega) (by omega), j5 _ _ (by omega) (by omega), k5 _ _ (by omega) (by omega), k5 _ _ (by omega) (by omega), k5 _ _ (by omega) (by omega)]
      exact h5 j (by omega)
  · refine h6.add (by omega) (fun j hj => ⟨upn_n (by omega), upn_n (by omega), upn_n (by omega)⟩) (fun j h1 h2 => ?_) (fun o n' h' hb => ?_)
    · have e : j = m := by omega
      subst e
      rw [upn_s, upn_s, upn_s]
      exact Or.inl ⟨rfl, rfl, rfl, (adn_0 f).symm⟩
    · rcases hb with ⟨_, b1, b2, b3⟩ | ⟨b0, _⟩
      · exact ⟨m, Nat.le_refl _, by omega, by rw [upn_s]; exact b1.symm, by rw [upn_s]; exact b2.symm, by rw [upn_s, b3, adn_0]⟩
      · cases b0
  · unfold PDx at q
    rw [j5 _ _ (by omega) (by omega), k5 _ _ (by omega) (by omega)]
theorem x_linkersOf (h : SS 6 b gx gm S) {r u c : Nat} (hr : r < 16) (hu : u < 65536) (hc : c < 5) : F_X2_linkersOf_s (nI r) (nI u) (nI c) gx = some (nI (lkr S u c r)) := by
  obtain ⟨n1, n2, n3, n4, n5⟩ := h.r16
  refine fix_for0 (B := F_X2_linkersOf_s_6B (nI r) (nI u) (nI c) gx) (fun i => (nI (bs (fun q => decide (sB S q = u) && decide (jc S q c = r + 1)) i), nI i)) (sR S) _ (fun i hi kb => ?_) (fun kb => ?_) (by omega)
  · obtain ⟨w1, w2, w3, _⟩ := h.rw hi
    unfold F_X2_linkersOf_s_6B F_X2_linkersOf_s_46
    dsimp only
    have e1 : (nI (sB S i) = nI u) ↔ sB S i = u := nI_eq (by omega) (by omega)
    have ec : F_X2_cell_s (nI i) (nI c) gx = some (cd 0 (jc S i c)) := by
      have := x_cell_s h (v := i + 1) (by omega) hc
      rw [cd0S, if_neg (by omega), Nat.add_sub_cancel] at this
      exact this
    have e2 : (cd 0 (jc S i c) = nI r) ↔ jc S i c = r + 1 := by rw [← cd0S r]; exact cd_inj2 (h.jc1 hi) (by omega)
    rw [n2, if_neg (nI_ge hi (by omega)), ck_true (inB_nI (by omega) (by decide)), nI_clamp (by omega), w3, ec, Option.bind_some, shl1 (by omega), nI_or, lt_def, lt_def, lt_def, nI_1]
    simp only [e1, e2, bs]
    by_cases q1 : sB S i = u
    · by_cases q2 : jc S i c = r + 1
      · simp [q1, q2]
      · simp [q1, q2]
    · simp [q1]
  · unfold F_X2_linkersOf_s_6B
    dsimp only
    rw [n2, if_pos (nI_le (Nat.le_refl _) (by omega))]
    rfl
theorem lkr_lt (S : St) (u c r : Nat) : lkr S u c r < 2 ^ sR S := bs_lt _ _
theorem x_addLaw (hS : SS 6 b gx gm S) (h : DX 35 gx S D raw 0) (hW : dW D < 10) {T n u c : Nat} (hT : T < sT S) (hu : u < sT S) (hc : c < 5) : ∃ gx', F_X1_addLaw_es (nI T) (nI n) (nI u) (nI c) gx = some gx' ∧ DX 35 gx' S (dAdd D true T n u c 0) raw 0 ∧ Ow PDx (fun _ _ => False) gx gx' := by
  obtain ⟨n1, n2, n3, n4, n5⟩ := hS.r16
  obtain ⟨h1, h2, m, ow0, nd0, hp0, h3, h4, h5, h6⟩ := h
  obtain ⟨k1, k2, k3, k4, k5, k6⟩ := gxD_ok gx (dW D) 1 (nI T) 0
  have hg := fix_to (B := F_X1_addLaw_es_10B (nI T) (nI n) (nI u) (nI c)) (I := fun i s => s.1 = nI i ∧ (∀ a k, ¬ (a = 35 ∧ k = 4) → ¬ (39 ≤ a ∧ a ≤ 41 ∧ m ≤ k) → gi s.2 a k = gi (gxD gx (dW D) 1 (nI T) 0) a k) ∧ (∀ a k, gl s.2 a k = gl gx a k) ∧ ∃ m' ow nd hp, gi s.2 35 4 = nI m' ∧ m ≤ m' ∧ m' ≤ m + i ∧ (∀ j, j < m' → gi s.2 39 j = nI (ow j) ∧ gi s.2 40 j = nI (nd j) ∧ gi s.2 41 j = nI (hp j)) ∧ (∀ j, j < m → ow j = ow0 j ∧ nd j = nd0 j ∧ hp j = hp0 j) ∧ (∀ j, m ≤ j → j < m' → ∃ r, r < i ∧ sB S r = T ∧ ow j = 2 ^ r ∧ nd j = n ∧ hp j = lkr S u c r) ∧ ∀ r, r < i → sB S r = T → ∃ j, m ≤ j ∧ j < m' ∧ ow j = 2 ^ r ∧ nd j = n ∧ hp j = lkr S u c r) (E := fun s => some s.2) (sR S) (fun i s hi hI => ?_) (fun s hI kb => ?_) (sR S) 0 FU (0, gxD gx (dW D) 1 (nI T) 0) (by omega) (by show sR S < 70000; omega) ⟨rfl, fun _ _ _ _ => rfl, k6, m, ow0, nd0, hp0, by rw [k5 _ _ (by omega) (by omega)]; exact h3, Nat.le_refl _, Nat.le_refl _, fun j hj => by rw [k5 _ _ (by omega) (by omega), k5 _ _ (by omega) (by omega), k5 _ _ (by omega) (by omega)]; exact h5 j hj, fun j _ => ⟨rfl, rfl, rfl⟩, fun j q1 q2 => by omega, fun r hr => by omega⟩
  · obtain ⟨⟨x, g'⟩, ⟨_, i1, i2, m', ow, nd, hp, i3, i4, i5, i6, i7, i8, i9⟩, he⟩ := hg
    dsimp only at i1 i2 i3 i6 he
    refine ⟨g', ?_, ⟨?_, fun k hk => ?_, m', ow, nd, hp, i3, by rw [dAdd_W]; omega, i6, ?_⟩, fun a i q => ?_, fun a i _ => i2 a i⟩
    · unfold F_X1_addLaw_es
      have e0 := x_addDemand (x2 := nI T) (x3 := 0) h1 hW (x1 := 1) (by decide)
      rw [e0, Option.bind_some]
      exact he
    · rw [i1 _ _ (by omega) (by omega), k1]; rfl
    · rw [dAdd_W] at hk
      rw [i1 _ _ (by omega) (by omega), i1 _ _ (by omega) (by omega), i1 _ _ (by omega) (by omega)]
      by_cases e : k = dW D
      · subst e
        obtain ⟨e1, e2, e3, e4, e5, e6⟩ := dAdd_n (D := D) (l := true) (T := T) (n := n) (u := u) (c := c) (f := 0)
        rw [e1, e2, e6]
        exact ⟨k2, k3, k4⟩
      · obtain ⟨e1, e2, e3, e4, e5, e6⟩ := dAdd_o (D := D) (l := true) (T := T) (n := n) (u := u) (c := c) (f := 0) (k := k) (by omega)
        rw [e1, e2, e6, k5 _ _ (by omega) (by omega), k5 _ _ (by omega) (by omega), k5 _ _ (by omega) (by omega)]
        exact h2 k (by omega)
    · refine h6.add i4 i7 (fun j q1 q2 => ?_) (fun o n' h' hb => ?_)
      · obtain ⟨r, r1, r2, r3, r4, r5⟩ := i8 j q1 q2
        exact Or.inr ⟨rfl, r, r1, r2, r3, by rw [adn_0]; exact r5, r4⟩
      · rcases hb with ⟨b0, _⟩ | ⟨_, r, r1, r2, r3, r4, r5⟩
        · cases b0
        · obtain ⟨j, j1, j2, j3, j4, j5⟩ := i9 r r1 r2
          exact ⟨j, j1, j2, j3.trans r3.symm, j4.trans r5.symm, by rw [j5, r4, adn_0]⟩
    · unfold PDx at q
      rw [i1 _ _ (by omega) (by omega), k5 _ _ (by omega) (by omega)]
  · obtain ⟨x, g⟩ := s
    obtain ⟨hx, i1, i2, m', ow, nd, hp, i3, i4, i5, i6, i7, i8, i9⟩ := hI
    dsimp only at hx i1 i2 i3 i6
    subst hx
    obtain ⟨w1, w2, w3, _⟩ := hS.rw hi
    have hg : ∀ a k, ¬ (35 ≤ a ∧ a ≤ 41) → gi g a k = gi gx a k := fun a k q => by rw [i1 _ _ (by omega) (by omega), k5 _ _ (by omega) (by omega)]
    have hSg : SS 6 b g gm S := hS.mv (fun a k ha => ⟨hg _ _ (by omega), i2 _ _⟩) AgM.rf
    have e1 : (nI (sB S i) = nI T) ↔ sB S i = T := nI_eq (by omega) (by omega)
    have e12 : gi g 12 i = nI (sB S i) := by rw [hg _ _ (by omega)]; exact w3
    have e66 : gi g 6 6 = nI (sR S) := by rw [hg _ _ (by omega)]; exact n2
    by_cases q : sB S i = T
    · obtain ⟨j1, j2, j3, j4, j5, j6⟩ := gxB_ok g m' (nI (2 ^ i)) (nI n) (nI (lkr S u c i))
      refine ⟨(nI (i + 1), gxB g m' (nI (2 ^ i)) (nI n) (nI (lkr S u c i))), ⟨rfl, fun a k p1 p2 => ?_, fun a k => by show gl (gxB _ _ _ _ _) a k = _; rw [j6]; exact i2 a k, m' + 1, upn ow m' (2 ^ i), upn nd m' n, upn hp m' (lkr S u c i), j1, by omega, by omega, fun j hj => ?_, fun j hj => ?_, fun j p1 p2 => ?_, fun r hr hB => ?_⟩, fun kb => ?_⟩
      · show gi (gxB _ _ _ _ _) a k = _
        rw [j5 _ _ p1 (by omega)]; exact i1 a k p1 p2
      · show gi (gxB _ _ _ _ _) 39 j = _ ∧ gi (gxB _ _ _ _ _) 40 j = _ ∧ gi (gxB _ _ _ _ _) 41 j = _
        by_cases e : j = m'
        · subst e; rw [upn_s, upn_s, upn_s]; exact ⟨j2, j3, j4⟩
        · rw [upn_n e, upn_n e, upn_n e, j5 _ _ (by omega) (by omega), j5 _ _ (by omega) (by omega), j5 _ _ (by omega) (by omega)]; exact i6 j (by omega)
      · rw [upn_n (by omega), upn_n (by omega), upn_n (by omega)]; exact i7 j hj
      · by_cases e : j = m'
        · subst e; rw [upn_s, upn_s, upn_s]; exact ⟨i, by omega, q, rfl, rfl, rfl⟩
        · rw [upn_n e, upn_n e, upn_n e]
          obtain ⟨r, r1, r2⟩ := i8 j p1 (by omega)
          exact ⟨r, by omega, r2⟩
      · by_cases e : r = i
        · subst e; exact ⟨m', i4, by omega, upn_s, upn_s, upn_s⟩
        · obtain ⟨j, p1, p2, p3, p4, p5⟩ := i9 r (by omega) hB
          exact ⟨j, p1, by omega, by rw [upn_n (by omega)]; exact p3, by rw [upn_n (by omega)]; exact p4, by rw [upn_n (by omega)]; exact p5⟩
      · unfold F_X1_addLaw_es_10B F_X1_addLaw_es_49
        dsimp only
        rw [e66, if_neg (nI_ge hi (by omega)), ck_true (inB_nI (by omega) (by decide)), nI_clamp (by omega), e12, if_pos (e1.mpr q), x_linkersOf hSg (by omega) (by omega) hc, Option.bind_some, shl1 (by omega), x_addBond i3 (by omega), Option.bind_some, lt_def, nI_1]
    · refine ⟨(nI (i + 1), g), ⟨rfl, i1, i2, m', ow, nd, hp, i3, i4, by omega, i6, i7, fun j p1 p2 => ?_, fun r hr hB => ?_⟩, fun kb => ?_⟩
      · obtain ⟨r, r1, r2⟩ := i8 j p1 p2
        exact ⟨r, by omega, r2⟩
      · by_cases e : r = i
        · subst e; exact absurd hB q
        · exact i9 r (by omega) hB
      · unfold F_X1_addLaw_es_10B F_X1_addLaw_es_49
        dsimp only
        rw [e66, if_neg (nI_ge hi (by omega)), ck_true (inB_nI (by omega) (by decide)), nI_clamp (by omega), e12, if_neg (fun r => q (e1.mp r)), lt_def, nI_1]
  · obtain ⟨x, g⟩ := s
    obtain ⟨hx, i1, _⟩ := hI
    dsimp only at hx i1
    subst hx
    have e66 : gi g 6 6 = nI (sR S) := by rw [i1 _ _ (by omega) (by omega), k5 _ _ (by omega) (by omega)]; exact n2
    unfold F_X1_addLaw_es_10B
    dsimp only
    rw [e66, if_pos (nI_le (Nat.le_refl _) (by omega))]
end ADDS
