/-! lookAt, whole -/
section LOOK2
variable {gx gm : GM} {S : St} {b wb P N z G : Nat} {D : Dm}
theorem m_lookW (h : MB gx gm S b wb D P N z G) {k : Nat} (hk : k < dW D) : ∃ g', (∀ kb87, fixN (F_X7_lookAt_119B kb87 (nI k) (nI (10 * wb + k))) FU (0, si gm 29 k 0) = kb87 (nI (k + 1), g')) ∧ LK gm g' ∧ gi g' 29 k = nI (dF D k) ∧ (∀ q, q < sR S → gi g' 30 (16 * k + q) = nI (asD S D G k q)) ∧ (∀ i, ¬ i = k → gi g' 29 i = gi gm 29 i) ∧ (∀ i, ¬ (16 * k ≤ i ∧ i < 16 * k + 16) → gi g' 30 i = gi gm 30 i) ∧ ∀ i, gi g' 28 i = gi gm 28 i := by
  have n16 := h.1.r16
  have hW10 := h.2.2.2.2.2.1.1
  have hwb2 := h.2.2.1
  obtain ⟨s1, s2, s3, s4, s5, s6⟩ := h.2.2.2.2.2.1.2 k hk
  have hi := fix_toK (B := fun kb87 => F_X7_lookAt_119B kb87 (nI k) (nI (10 * wb + k))) (I := fun r s => s.1 = nI r ∧ LK gm s.2 ∧ gi s.2 29 k = nI (bs (fun q => (dF D k).testBit q) r) ∧ (∀ q, q < r → gi s.2 30 (16 * k + q) = nI (asD S D G k q)) ∧ (∀ i, ¬ i = k → gi s.2 29 i = gi gm 29 i) ∧ (∀ i, ¬ (16 * k ≤ i ∧ i < 16 * k + 16) → gi s.2 30 i = gi gm 30 i) ∧ ∀ i, gi s.2 28 i = gi gm 28 i) (E := fun kb87 s => kb87 (nI (k + 1), s.2)) (sR S) (fun r s hr hI => by
    obtain ⟨y, g⟩ := s
    obtain ⟨hy, j1, j2, j3, j4, j5, j6⟩ := hI
    dsimp only at hy j1 j2 j3 j4 j5 j6
    subst hy
    have hg := h.lk j1
    obtain ⟨d1, d2, d3, d4⟩ := hg.2.2.2.2.2.2.1 k hk
    obtain ⟨w1, _⟩ := hg.1.rw hr
    have eT : (nI (5 * b + sB S r) = nI (5 * b + dT D k)) ↔ sB S r = dT D k := by rw [nI_eq (by omega) (by omega)]; omega
    -- from 176 on
    have last : ∀ g1, LK g g1 → gi g1 29 k = nI (bs (fun q => (dF D k).testBit q) (r + 1)) → (∀ a i, ¬ a = 27 → ¬ (a = 29 ∧ i = k) → gi g1 a i = gi g a i) → (∀ kb87 kb, F_X7_lookAt_119B kb87 (nI k) (nI (10 * wb + k)) kb (nI r, g) = F_X7_lookAt_176 kb87 kb (nI k) (nI (10 * wb + k)) (nI r) g1) → ∃ s', ((s' : Int32 × GM).1 = nI (r + 1) ∧ LK gm s'.2 ∧ gi s'.2 29 k = nI (bs (fun q => (dF D k).testBit q) (r + 1)) ∧ (∀ q, q < r + 1 → gi s'.2 30 (16 * k + q) = nI (asD S D G k q)) ∧ (∀ i, ¬ i = k → gi s'.2 29 i = gi gm 29 i) ∧ (∀ i, ¬ (16 * k ≤ i ∧ i < 16 * k + 16) → gi s'.2 30 i = gi gm 30 i) ∧ ∀ i, gi s'.2 28 i = gi gm 28 i) ∧ ∀ kb87 kb, F_X7_lookAt_119B kb87 (nI k) (nI (10 * wb + k)) kb (nI r, g) = kb s' := by
      intro g1 l1 l2 l3 l4
      obtain ⟨g2, a1, a2, a3, a4⟩ := m_asked (hg.lk l1) hk hr
      refine ⟨(nI (r + 1), g2), ⟨rfl, (j1.tr l1).tr a2, ?_, fun q hq => ?_, fun i hi => ?_, fun i hi => ?_, fun i => ?_⟩, fun kb87 kb => by rw [l4, a1]⟩
      · show gi g2 29 k = _
        rw [a4 _ _ (by omega)]; exact l2
      · show gi g2 30 (16 * k + q) = _
        by_cases e : q = r
        · subst e; exact a3
        · rw [a4 _ _ (by omega), l3 _ _ (by omega) (by omega)]; exact j3 q (by omega)
      · show gi g2 29 i = _
        rw [a4 _ _ (by omega), l3 _ _ (by omega) (by omega)]; exact j4 i hi
      · show gi g2 30 i = _
        rw [a4 _ _ (by omega), l3 _ _ (by omega) (by omega)]; exact j5 i hi
      · show gi g2 28 i = _
        rw [a4 _ _ (by omega), l3 _ _ (by omega) (by omega)]; exact j6 i
    have pre : ∀ kb87 kb, F_X7_lookAt_119B kb87 (nI k) (nI (10 * wb + k)) kb (nI r, g) = if (0 : Int32) ≤ (gi g 17 (10 * wb + k)) then F_X7_lookAt_176 kb87 kb (nI k) (nI (10 * wb + k)) (nI r) g else if sB S r = dT D k then (F_X7_holdsFor (nI (10 * wb + k)) (nI r) g).bind fun (r_10, g_11) => if r_10 = 0 then F_X7_lookAt_176 kb87 kb (nI k) (nI (10 * wb + k)) (nI r) g_11 else F_X7_lookAt_176 kb87 kb (nI k) (nI (10 * wb + k)) (nI r) (si g_11 29 k ((gi g_11 29 k) ||| nI (2 ^ r))) else F_X7_lookAt_176 kb87 kb (nI k) (nI (10 * wb + k)) (nI r) g := by
      intro kb87 kb
      unfold F_X7_lookAt_119B
      dsimp only
      rw [hg.2.1, ck_true (inB_nI n16.2.2.2.1 (by decide)), nI_clamp (by omega), hg.1.r16.2.2.1, if_neg (nI_ge hr (by omega)), ck_true (inB_nI (by omega) (by decide)), nI_clamp (by omega), m_tableAt hg.1 hg.2.1 hr, Option.bind_some, ck_true (inB_nI (by omega) (by decide)), d1, shl1 (by omega)]
      simp only [eT, ck_true (inB_nI (show k < 10 by omega) (by decide)), nI_clamp (show k < 2 ^ 31 by omega), lt_def]
    by_cases q : dL D k = true
    · have f0 := (s6 q).2.2.2
      have fu := (s6 q).1
      refine last g (LK.rf g) ?_ (fun _ _ _ _ => rfl) (fun kb87 kb => ?_)
      · rw [j2]
        simp only [bs]
        rw [f0, if_neg (by rw [Nat.zero_testBit]; decide)]
      · rw [pre, (d3 q).1, if_pos (nI_pos' (by omega))]
    · have q' : dL D k = false := by simpa using q
      obtain ⟨d5, a, z', d6, d7, d8, d9⟩ := d4 q'
      by_cases hB : sB S r = dT D k
      · obtain ⟨g1, m1, m2⟩ := m_holdsFor hg.1 hg.2.1 hg.2.2.1 hg.2.2.2.1 s1 (show k < 10 by omega) d6 d7 d9 hr hB
        have hbit := m2.1
        by_cases c : (dF D k).testBit r = true
        · refine last (si g1 29 k (gi g1 29 k ||| nI (2 ^ r))) ((LK.off m2).si (by decide)) ?_ (fun a i p1 p2 => ?_) (fun kb87 kb => ?_)
          · rw [gi_same, hbit _ _ (by decide), j2, nI_or]
            simp only [bs]
            rw [if_pos c]
          · rw [gi_si, if_neg p2]; exact hbit a i p1
          · rw [pre, d5, if_neg (by decide), if_pos hB, m1, Option.bind_some]
            dsimp only
            rw [c, if_neg (by decide)]
        · have c' : (dF D k).testBit r = false := by simpa using c
          refine last g1 (LK.off m2) ?_ (fun a i p1 _ => hbit a i p1) (fun kb87 kb => ?_)
          · rw [hbit _ _ (by decide), j2]
            simp only [bs]
            rw [if_neg c]
          · rw [pre, d5, if_neg (by decide), if_pos hB, m1, Option.bind_some]
            dsimp only
            rw [c', if_pos (by decide)]
      · refine last g (LK.rf g) ?_ (fun _ _ _ _ => rfl) (fun kb87 kb => ?_)
        · rw [j2]
          simp only [bs]
          rw [if_neg (fun x => hB (s5 r x))]
        · rw [pre, d5, if_neg (by decide), if_neg hB]) (fun s hI kk kb => by
    obtain ⟨y, g⟩ := s
    obtain ⟨hy, j1, _⟩ := hI
    dsimp only at hy j1
    subst hy
    have hg := h.lk j1
    unfold F_X7_lookAt_119B
    dsimp only
    rw [hg.2.1, ck_true (inB_nI n16.2.2.2.1 (by decide)), nI_clamp (by omega), hg.1.r16.2.2.1, if_pos (nI_le (Nat.le_refl _) (by omega)), lt_def, nI_1]) (sR S) 0 FU (0, si gm 29 k 0) (by omega) (by show sR S < 70000; omega) ⟨rfl, (LK.rf gm).si (by decide), gi_same, fun q hq => by omega, fun i hi => by
      show gi (si gm 29 k 0) 29 i = _
      rw [gi_si, if_neg (by omega)], fun i _ => by
      show gi (si gm 29 k 0) 30 i = _
      rw [gi_si, if_neg (by omega)], fun i => by
      show gi (si gm 29 k 0) 28 i = _
      rw [gi_si, if_neg (by omega)]⟩
  obtain ⟨⟨y, g'⟩, ⟨_, k1, k2, k3, k4, k5, k6⟩, k7⟩ := hi
  dsimp only at k1 k2 k3 k4 k5 k6 k7
  refine ⟨g', k7, k1, ?_, k3, k4, k5, k6⟩
  rw [k2]
  congr 1
  apply Nat.eq_of_testBit_eq
  intro i
  rw [bs_bit]
  by_cases c : i < sR S
  · simp [c]
  · have : (dF D k).testBit i = false := by
      cases e : (dF D k).testBit i with
      | false => rfl
      | true => exact absurd (bits_lt s4 e) c
    simp [c, this]
/-- what lookAt leaves -/
theorem m_lookAt (h : MB gx gm S b wb D P N z G) : ∃ g', F_X7_lookAt gm = some g' ∧ LK gm g' ∧ MP g' (sR S) (dW D) G wb (fun r => lkc S r 5) (dF D) (dL D) (dN D) (asD S D G) := by
  have n16 := h.1.r16
  obtain ⟨g0, a1, a2, a3⟩ := m_drawn h
  have h0 := h.lk a2
  have hW10 := h.2.2.2.2.2.1.1
  have hl := fix_to (B := F_X7_lookAt_87B) (I := fun k s => s.1 = nI k ∧ LK g0 s.2 ∧ (∀ j, j < k → gi s.2 29 j = nI (dF D j)) ∧ (∀ j, j < k → ∀ r, r < sR S → gi s.2 30 (16 * j + r) = nI (asD S D G j r)) ∧ ∀ i, gi s.2 28 i = gi g0 28 i) (E := fun s => some s.2) (dW D) (fun k s hk hI => ?_) (fun s hI kb => ?_) (dW D) 0 FU (0, g0) (by omega) (by show dW D < 70000; omega) ⟨rfl, LK.rf g0, fun j hj => by omega, fun j hj => by omega, fun _ => rfl⟩
  · obtain ⟨⟨x, g'⟩, ⟨_, b1, b2, b3, b4⟩, b5⟩ := hl
    dsimp only at b1 b2 b3 b4 b5
    have hg := h0.lk b1
    obtain ⟨g1, g23, gwb, g37, g14, gDS, gDK, _, _, gG, g49⟩ := hg
    refine ⟨g', a1.trans b5, a2.tr b1, n16.1, hW10, ⟨b, n16.2.2.2.1, g23, g1.r16.2.2.1⟩, ⟨gwb, g37, g14⟩, ⟨gG, g49⟩, fun r hr => ⟨by rw [b4]; exact a3 r hr, lkc_lt S r 5⟩, fun k hk => ?_⟩
    obtain ⟨d1, d2, d3, d4⟩ := gDK k hk
    obtain ⟨s1, s2, s3, s4, s5, s6⟩ := gDS.2 k hk
    refine ⟨d2, s3, fun q => ?_, fun q => ?_, b2 k hk, s4, fun r hr => ⟨b3 k hk r hr, ?_⟩⟩
    · rw [(d3 q).1]; exact nI_pos (by have := (s6 q).1; omega)
    · rw [(d4 q).1]; decide
    · unfold asD
      split
      · exact adn_lt (lkr_lt _ _ _ _)
      · exact Nat.two_pow_pos _
  · obtain ⟨x, g⟩ := s
    obtain ⟨hx, i1, i2, i3, i4⟩ := hI
    dsimp only at hx i1 i2 i3 i4
    subst hx
    have hg := h0.lk i1
    obtain ⟨g', c1, c2, c3, c4, c5, c6, c7⟩ := m_lookW hg hk
    refine ⟨(nI (k + 1), g'), ⟨rfl, i1.tr c2, fun j hj => ?_, fun j hj r hr => ?_, fun i => (c7 i).trans (i4 i)⟩, fun kb => ?_⟩
    · show gi g' 29 j = _
      by_cases e : j = k
      · subst e; exact c3
      · rw [c5 j e]; exact i2 j (by omega)
    · show gi g' 30 (16 * j + r) = _
      by_cases e : j = k
      · subst e; exact c4 r hr
      · rw [c6 _ (by omega)]; exact i3 j (by omega) r hr
    · unfold F_X7_lookAt_87B
      dsimp only
      rw [hg.2.2.2.1, ck_true (inB_nI hg.2.2.1 (by decide)), nI_clamp (by have := hg.2.2.1; omega), hg.2.2.2.2.1, if_neg (nI_ge hk (by omega)), l10, nI_add, lt_def, ck_true (inB_nI (by omega) (by decide)), nI_clamp (by omega), lt_def]
      exact c1 kb
  · obtain ⟨x, g⟩ := s
    obtain ⟨hx, i1, _⟩ := hI
    dsimp only at hx i1
    subst hx
    have hg := h0.lk i1
    unfold F_X7_lookAt_87B
    dsimp only
    rw [hg.2.2.2.1, ck_true (inB_nI hg.2.2.1 (by decide)), nI_clamp (by have := hg.2.2.1; omega), hg.2.2.2.2.1, if_pos (nI_le (Nat.le_refl _) (by omega))]
end LOOK2
