/-! links of the reference; found by the class -/
section LINKS2
variable {b : Nat} {gx gm : GM} {S : St}
/-- the reference at a fault 5 -/
def gmF5 (b : Nat) (gm : GM) (k : Nat) : GM := si (si gm 0 4 5) 0 5 (gi gm 11 (80 * b + k))
theorem gmF5_bad (k : Nat) : F_X7_isGood (gmF5 b gm k) = some 0 := by
  unfold F_X7_isGood gmF5
  rw [if_neg (by rw [gi_si, if_neg (by decide), gi_same]; decide)]
theorem gmF5_off {k a i : Nat} (h : ¬ a = 0) : gi (gmF5 b gm k) a i = gi gm a i := by
  unfold gmF5
  rw [gi_si, if_neg (by omega), gi_si, if_neg (by omega)]
theorem gmF5_0 {k i : Nat} (h : 5 < i) : gi (gmF5 b gm k) 0 i = gi gm 0 i := by
  unfold gmF5
  rw [gi_si, if_neg (by omega), gi_si, if_neg (by omega)]
theorem m_check (hA : RA b gx gm S) (hg : gi gm 0 4 = 0) {r : Nat} (hr : r < sR S) :
    ∃ gm', F_X7_checkLinks (nI (16 * b + r)) gm = some gm' ∧ ((gm' = gm ∧ ∀ c, c < 5 → ¬ Bad S r c) ∨ ∃ c, c < 5 ∧ Bad S r c ∧ (∀ c', c' < c → ¬ Bad S r c') ∧ gm' = gmF5 b gm (r * 5 + c)) := by
  obtain ⟨w1, w2, w3, w4, w5, w6, w7⟩ := hA.2.1.2.2.2.1 r hr
  have hR16 := hA.2.1.1
  have hT5 := hA.1.2.1
  have hb := hA.1.1
  obtain ⟨a1, a2, a3, a4, a5, a6, a7, a8⟩ := hA.1.2.2.2.2 _ w1
  have stF : ∀ k x kb, F_X7_checkLinks_9B (nI (16 * b + r)) (nI (5 * b + sB S r)) kb (x, gmF5 b gm k) = some (gmF5 b gm k) := by
    intro k x kb
    unfold F_X7_checkLinks_9B
    dsimp only
    rw [ck_true (inB_nI (by omega) (by decide)), gmF5_bad, Option.bind_some, if_pos (show (0 : Int32) = 0 from rfl)]
    split <;> rfl
  have hl := fix_inv (B := F_X7_checkLinks_9B (nI (16 * b + r)) (nI (5 * b + sB S r))) (I := fun c s => (s = (nI c, gm) ∧ ∀ c', c' < c → ¬ Bad S r c') ∨ ∃ c0, c0 < c ∧ Bad S r c0 ∧ (∀ c', c' < c0 → ¬ Bad S r c') ∧ s = (nI c, gmF5 b gm (r * 5 + c0))) (R := fun g => (g = gm ∧ ∀ c, c < 5 → ¬ Bad S r c) ∨ ∃ c, c < 5 ∧ Bad S r c ∧ (∀ c', c' < c → ¬ Bad S r c') ∧ g = gmF5 b gm (r * 5 + c)) (sC S (sB S r)) (fun c s hc hI => ?_) (fun s hI => ?_) (sC S (sB S r)) 0 FU (0, gm) (by omega) (by show _ < 70000; omega) (Or.inl ⟨rfl, fun c' hc' => by omega⟩)
  · obtain ⟨g, h1, h2⟩ := hl
    refine ⟨g, ?_, h1⟩
    unfold F_X7_checkLinks
    rw [ck_true (inB_nI (by omega) (by decide)), nI_clamp (by omega), w4, lt_def]
    exact h2
  · rcases hI with ⟨rfl, hno⟩ | ⟨c0, h1, h2, h3, rfl⟩
    · obtain ⟨_, cl, _, c4⟩ := a8 c hc
      obtain ⟨v1, v2⟩ := w7 c hc
      have step : ∀ kb, F_X7_checkLinks_9B (nI (16 * b + r)) (nI (5 * b + sB S r)) kb (nI c, gm) = if cd (5 * b) (sL S (sB S r) c) < 0 then kb (nI (c + 1), gm) else ckB (inB (cd (5 * b) (sL S (sB S r) c)) 10) <| if cd 0 (sV S r c) < gi gm 6 (cd (5 * b) (sL S (sB S r) c)).toNatClampNeg then kb (nI (c + 1), gm) else kb (nI (c + 1), gmF5 b gm (r * 5 + c)) := by
        intro kb
        have hf : F_X7_fails 5 (gi gm 11 (5 * (16 * b + r) + c)) gm = some (gmF5 b gm (r * 5 + c)) := by
          unfold F_X7_fails gmF5
          rw [if_pos (by rw [hg]; decide), lt_def, lt_def, show 5 * (16 * b + r) + c = 80 * b + (r * 5 + c) by omega]
        unfold F_X7_checkLinks_9B F_X7_checkLinks_79
        dsimp only
        rw [ck_true (inB_nI (by omega) (by decide)), nI_clamp (by omega), a5, if_neg (nI_ge hc (by omega)), m_good hg, Option.bind_some, if_neg (by decide), l5, nI_add, ck_true (inB_nI (by omega) (by decide)), nI_clamp (by omega), c4, lt_def, l5, nI_add, lt_def, ck_true (inB_nI (by omega) (by decide)), nI_clamp (by omega), v2, ck_true (inB_nI (by omega) (by decide)), hf, Option.bind_some]
        simp only [lt_def, nI_1]
      by_cases c2 : sL S (sB S r) c = 0
      · refine Or.inl ⟨(nI (c + 1), gm), Or.inl ⟨rfl, fun c' hc' q => ?_⟩, fun kb => by rw [step, if_pos ((cd_neg (by omega)).mpr c2)]⟩
        by_cases e : c' = c
        · subst e; have := q.2.1; omega
        · exact hno c' (by omega) q
      · obtain ⟨l, hl⟩ : ∃ l, sL S (sB S r) c = l + 1 := ⟨sL S (sB S r) c - 1, by omega⟩
        have hQ := (hA.1.2.2.2.2 l (by omega)).2.2.2.2.2.2.1
        have hQ2 := (hA.1.2.2.2.2 l (by omega)).2.1
        have step2 : ∀ kb, F_X7_checkLinks_9B (nI (16 * b + r)) (nI (5 * b + sB S r)) kb (nI c, gm) = if cd 0 (sV S r c) < nI (sQ S l) then kb (nI (c + 1), gm) else kb (nI (c + 1), gmF5 b gm (r * 5 + c)) := by
          intro kb
          rw [step, if_neg (fun q => c2 ((cd_neg (by omega)).mp q)), hl, cdS, ck_true (inB_nI (by omega) (by decide)), nI_clamp (by omega), hQ]
        have hiff : cd 0 (sV S r c) < nI (sQ S l) ↔ ¬ Bad S r c := by
          constructor
          · intro q hb
            obtain ⟨b1, b2, b3, b4⟩ := hb
            obtain ⟨v, hv⟩ : ∃ v, sV S r c = v + 1 := ⟨sV S r c - 1, by omega⟩
            rw [hv, cdS, Nat.zero_add, nI_ltI (by omega) (by omega)] at q
            rw [hl, hv, Nat.add_sub_cancel, Nat.add_sub_cancel] at b4
            omega
          · intro hb
            by_cases c3 : sV S r c = 0
            · rw [c3, cd0, Int32.lt_iff_toInt_lt, nI_toInt (by omega), show (-1 : Int32).toInt = -1 by decide]
              omega
            · obtain ⟨v, hv⟩ : ∃ v, sV S r c = v + 1 := ⟨sV S r c - 1, by omega⟩
              rw [hv, cdS, Nat.zero_add, nI_ltI (by omega) (by omega)]
              apply Classical.byContradiction
              intro q
              exact hb ⟨hc, by omega, by omega, by rw [hl, hv, Nat.add_sub_cancel, Nat.add_sub_cancel]; omega⟩
        by_cases c4 : Bad S r c
        · exact Or.inl ⟨(nI (c + 1), gmF5 b gm (r * 5 + c)), Or.inr ⟨c, by omega, c4, hno, rfl⟩, fun kb => by rw [step2, if_neg (fun q => hiff.mp q c4)]⟩
        · refine Or.inl ⟨(nI (c + 1), gm), Or.inl ⟨rfl, fun c' hc' q => ?_⟩, fun kb => by rw [step2, if_pos (hiff.mpr c4)]⟩
          by_cases e : c' = c
          · subst e; exact c4 q
          · exact hno c' (by omega) q
    · exact Or.inr ⟨gmF5 b gm (r * 5 + c0), Or.inr ⟨c0, by omega, h2, h3, rfl⟩, stF _ _⟩
  · rcases hI with ⟨rfl, hno⟩ | ⟨c0, h1, h2, h3, rfl⟩
    · refine ⟨gm, Or.inl ⟨rfl, fun c hc q => hno c q.1 q⟩, fun kb => ?_⟩
      unfold F_X7_checkLinks_9B
      dsimp only
      rw [ck_true (inB_nI (by omega) (by decide)), nI_clamp (by omega), a5, if_pos (nI_le (Nat.le_refl _) (by omega))]
    · exact ⟨gmF5 b gm (r * 5 + c0), Or.inr ⟨c0, by omega, h2, h3, rfl⟩, stF _ _⟩
theorem m_checks (hA : RA b gx gm S) (hg : gi gm 0 4 = 0) (hrb : gi gm 0 24 = nI b) :
    (F_X7_store_94 gm = F_X7_store_135 gm ∧ NB S (sR S * 5)) ∨ ∃ k, FB S (sR S * 5) k ∧ F_X7_store_94 gm = F_X7_store_135 (gmF5 b gm k) := by
  have hR16 := hA.2.1.1
  have hb := hA.1.1
  have hrows : ∀ k, gi (gmF5 b gm k) 0 24 = nI b ∧ gi (gmF5 b gm k) 13 b = nI (sR S) := fun k => ⟨by rw [gmF5_0 (by decide)]; exact hrb, by rw [gmF5_off (by decide)]; exact hA.2.1.2.2.1⟩
  have stF : ∀ k x kb, F_X7_store_96B kb (x, gmF5 b gm k) = F_X7_store_135 (gmF5 b gm k) := by
    intro k x kb
    unfold F_X7_store_96B
    dsimp only
    rw [(hrows k).1, ck_true (inB_nI hb (by decide)), gmF5_bad, Option.bind_some, if_pos (show (0 : Int32) = 0 from rfl)]
    split <;> rfl
  unfold F_X7_store_94
  refine fix_invO (B := F_X7_store_96B) (I := fun r s => (s = (nI r, gm) ∧ NB S (r * 5)) ∨ ∃ k, FB S (r * 5) k ∧ s = (nI r, gmF5 b gm k)) (R := fun o => (o = F_X7_store_135 gm ∧ NB S (sR S * 5)) ∨ ∃ k, FB S (sR S * 5) k ∧ o = F_X7_store_135 (gmF5 b gm k)) (sR S) (fun r s hr hI => ?_) (fun s hI => ?_) (sR S) 0 FU (0, gm) (by omega) (by show sR S < 70000; omega) (Or.inl ⟨rfl, fun j hj => by omega⟩)
  · rcases hI with ⟨rfl, hno⟩ | ⟨k, h1, rfl⟩
    · obtain ⟨gm', h1, h2⟩ := m_check hA hg hr
      have step : ∀ kb, F_X7_store_96B kb (nI r, gm) = kb (nI (r + 1), gm') := by
        intro kb
        unfold F_X7_store_96B
        dsimp only
        rw [hrb, ck_true (inB_nI hb (by decide)), nI_clamp (by omega), hA.2.1.2.2.1, if_neg (nI_ge hr (by omega)), m_good hg, Option.bind_some, if_neg (by decide), l16, nI_add, h1, Option.bind_some, lt_def, nI_1]
      rcases h2 with ⟨rfl, hnb⟩ | ⟨c, hc, h3, h4, rfl⟩
      · refine Or.inl ⟨(nI (r + 1), gm'), Or.inl ⟨rfl, fun j hj => ?_⟩, step⟩
        by_cases e : j < r * 5
        · exact hno j e
        · have e1 : j / 5 = r := by omega
          rw [e1]; exact hnb _ (by omega)
      · obtain ⟨l1, l2⟩ := lin5 r c hc
        refine Or.inl ⟨(nI (r + 1), gmF5 b gm (r * 5 + c)), Or.inr ⟨r * 5 + c, ⟨by omega, by rw [l1, l2]; exact h3, fun j hj => ?_⟩, rfl⟩, step⟩
        by_cases e : j < r * 5
        · exact hno j e
        · have e1 : j / 5 = r := by omega
          rw [e1]; exact h4 _ (by omega)
    · exact Or.inr ⟨_, Or.inr ⟨k, ⟨by have := h1.1; omega, h1.2⟩, rfl⟩, stF _ _⟩
  · rcases hI with ⟨rfl, hno⟩ | ⟨k, h1, rfl⟩
    · refine ⟨_, Or.inl ⟨rfl, hno⟩, fun kb => ?_⟩
      unfold F_X7_store_96B
      dsimp only
      rw [hrb, ck_true (inB_nI hb (by decide)), nI_clamp (by omega), hA.2.1.2.2.1, if_pos (nI_le (Nat.le_refl _) (by omega))]
    · exact ⟨_, Or.inr ⟨k, h1, rfl⟩, stF _ _⟩
/-! findLinks -/
theorem sRow_le (S : St) (u v : Nat) : sRow S u v ≤ sR S := ff_le _ _
theorem jc_link {S : St} {r c : Nat} (h1 : c < sC S (sB S r)) (h2 : 0 < sL S (sB S r) c) : jc S r c ≤ sR S := by
  unfold jc
  rw [if_pos h1, if_neg (by omega)]
  split
  · omega
  · exact sRow_le _ _ _
theorem lkc_lt (S : St) (r : Nat) : ∀ c, lkc S r c < 2 ^ sR S := by
  intro c
  induction c with
  | zero => exact Nat.two_pow_pos _
  | succ c ih =>
    simp only [lkc]
    split
    · rename_i h
      have := jc_link h.1 h.2.1
      exact or_lt ih (Nat.pow_lt_pow_right (by decide) (by omega))
    · exact ih
/-- joined cells -/
def JC (B : Nat) (gx : GM) (S : St) : Prop := ∀ r c, c < 5 → r < sR S → gi gx (B + 8) (r * 5 + c) = cd 0 (jc S r c)
/-- findLinks, r rows done -/
def FX (S : St) (gx0 gx : GM) (r : Nat) : Prop := (∀ a i, ¬ a = 27 → gi gx a i = gi gx0 a i) ∧ (∀ a i, gl gx a i = gl gx0 a i) ∧ ∀ q, q < r → gi gx 27 q = nI (lkc S q 5)
theorem x_findLinks (hT : RT 17 b gx gm S) (hW : RwX 17 gx S) (hTb : ∀ r, r < sR S → sB S r < sT S) (hJ : JC 17 gx S) : ∃ gx', FX S gx gx' (sR S) ∧ F_X2_findLinks_p gx = some gx' := by
  have hR16 := hW.1
  have rw' : ∀ {r : Nat} {g : GM}, (∀ a i, ¬ a = 27 → gi g a i = gi gx a i) → RwX 17 g S := by
    intro r g hg
    exact ⟨hW.1, by rw [hg _ _ (by decide)]; exact hW.2.1, fun q hq => by
      obtain ⟨a1, a2, a3, a4⟩ := hW.2.2 q hq
      exact ⟨a1, a2, by rw [hg _ _ (by decide)]; exact a3, by rw [hg _ _ (by decide)]; exact a4⟩⟩
  have rt' : ∀ {g : GM}, (∀ a i, ¬ a = 27 → gi g a i = gi gx a i) → (∀ a i, gl g a i = gl gx a i) → RT 17 b g gm S := by
    intro g hg hgl
    obtain ⟨h1, h2, h3, h4, h5⟩ := hT
    refine ⟨h1, h2, by rw [hg _ _ (by omega)]; exact h3, h4, fun t ht => ?_⟩
    obtain ⟨a1, a2, a3, a4, a5, a6, a7, a8⟩ := h5 t ht
    refine ⟨a1, a2, by rw [hgl]; exact a3, by rw [hg _ _ (by omega)]; exact a4, a5, by rw [hg _ _ (by omega)]; exact a6, a7, fun c hc => ?_⟩
    obtain ⟨c1, c2, c3, c4⟩ := a8 c hc
    exact ⟨by rw [hgl]; exact c1, c2, by rw [hg _ _ (by omega)]; exact c3, c4⟩
  have hl := fix_to (B := F_X2_findLinks_p_2B) (I := fun r s => s.1 = nI r ∧ FX S gx s.2 r) (E := fun s => some s.2) (sR S) (fun r s hr hI => ?_) (fun s hI kb => ?_) (sR S) 0 FU (0, gx) (by omega) (by show sR S < 70000; omega) ⟨rfl, fun _ _ _ => rfl, fun _ _ => rfl, fun q hq => by omega⟩
  · obtain ⟨⟨x, gx'⟩, ⟨_, h2⟩, h3⟩ := hl
    exact ⟨gx', h2, h3⟩
  · obtain ⟨x, g⟩ := s
    obtain ⟨hx, hF⟩ := hI
    dsimp only at hx hF
    subst hx
    have hWg := rw' (r := 0) hF.1
    obtain ⟨⟨y, g'⟩, ⟨hy, hF1, hF2, hF3, hF4⟩, h3⟩ := fix_toK (B := fun kb2 => F_X2_findLinks_p_19B kb2 (nI r)) (I := fun c s => s.1 = nI c ∧ (∀ a i, ¬ a = 27 → gi s.2 a i = gi gx a i) ∧ (∀ a i, gl s.2 a i = gl gx a i) ∧ gi s.2 27 r = nI (lkc S r c) ∧ ∀ q, q < r → gi s.2 27 q = nI (lkc S q 5)) (E := fun kb2 s => kb2 (nI (r + 1), s.2)) 5 (fun c s hc hI => by
      obtain ⟨y, g⟩ := s
      obtain ⟨hy, i1, i2, i3, i4⟩ := hI
      dsimp only at hy i1 i2 i3 i4
      subst hy
      have hWg := rw' (r := 0) i1
      have hTg := rt' i1 i2
      obtain ⟨w1, w2, w3, w4⟩ := hWg.2.2 r hr
      have cl := x_cell_p hWg hr hc
      have hjc : gi g 25 (r * 5 + c) = cd 0 (jc S r c) := by rw [i1 _ _ (by decide)]; exact hJ r c hc hr
      rw [hjc] at cl
      have step : ∀ kb2 kb, F_X2_findLinks_p_19B kb2 (nI r) kb (nI c, g) = if (if c < sC S (sB S r) then cd 0 (sL S (sB S r) c) else -1) = (-1) then kb (nI (c + 1), g) else (F_X2_hasRow_p (cd 0 (jc S r c)) g).bind fun r_5 => if r_5 = 0 then kb (nI (c + 1), g) else kb (nI (c + 1), si g 27 r (nI (lkc S r c) ||| (1 <<< (cd 0 (jc S r c) &&& 31)))) := by
        intro kb2 kb
        unfold F_X2_findLinks_p_19B F_X2_findLinks_p_69
        dsimp only
        rw [if_neg (show ¬ (5 : Int32) ≤ nI c from nI_ge (a := c) (b := 5) hc (by decide)), ck_true (inB_nI (by omega) (by decide)), nI_clamp (by omega), show gi g 23 r = nI (sB S r) from w3, x_target_p hTg (hTb r hr) hc, Option.bind_some, cl, Option.bind_some, Option.bind_some]
        simp only [lt_def, nI_1, ck_true (inB_nI (show r < 16 by omega) (by decide)), i3]
      by_cases c1 : c < sC S (sB S r) ∧ 0 < sL S (sB S r) c ∧ 0 < jc S r c
      · have hle := jc_link c1.1 c1.2.1
        obtain ⟨j, hj⟩ : ∃ j, jc S r c = j + 1 := ⟨jc S r c - 1, by omega⟩
        have hro : F_X2_hasRow_p (cd 0 (jc S r c)) g = some 1 := by
          unfold F_X2_hasRow_p
          rw [hj, cdS, Nat.zero_add, if_neg (nI_pos (by omega)), hWg.2.1, if_neg (nI_ge (by omega) (by omega))]
        have hll : sL S (sB S r) c ≤ 5 := by
          have := ((hTg.2.2.2.2 _ (hTb r hr)).2.2.2.2.2.2.2 c c1.1).2.1
          have := hTg.2.1
          omega
        refine ⟨(nI (c + 1), si g 27 r (nI (lkc S r (c + 1)))), ⟨rfl, fun a i ha => ?_, fun a i => i2 a i, ?_, fun q hq => ?_⟩, fun kb2 kb => ?_⟩
        · show gi (si g 27 r _) a i = _
          rw [gi_si, if_neg (by omega)]; exact i1 a i ha
        · show gi (si g 27 r _) 27 r = _
          rw [gi_same]
        · show gi (si g 27 r _) 27 q = _
          rw [gi_si, if_neg (by omega)]; exact i4 q hq
        · rw [step, if_pos c1.1, if_neg (fun q => by have := (cd_m1 (by omega)).mp q; omega), hro, Option.bind_some, if_neg (by decide), hj, cdS, Nat.zero_add, shl1 (by omega), nI_or]
          simp only [lkc]
          rw [if_pos c1, hj, Nat.add_sub_cancel]
      · have elk : lkc S r (c + 1) = lkc S r c := by simp only [lkc]; rw [if_neg c1]
        refine ⟨(nI (c + 1), g), ⟨rfl, i1, i2, by rw [elk]; exact i3, i4⟩, fun kb2 kb => ?_⟩
        rw [step]
        by_cases c2 : c < sC S (sB S r)
        · rw [if_pos c2]
          have hll : sL S (sB S r) c ≤ 5 := by
            have := ((hTg.2.2.2.2 _ (hTb r hr)).2.2.2.2.2.2.2 c c2).2.1
            have := hTg.2.1
            omega
          by_cases c3 : sL S (sB S r) c = 0
          · rw [if_pos ((cd_m1 (by omega)).mpr c3)]
          · have c4 : jc S r c = 0 := by omega
            have hro : F_X2_hasRow_p (cd 0 (jc S r c)) g = some 0 := by
              unfold F_X2_hasRow_p F_X2_hasRow_p_16
              rw [c4, cd0, if_pos (by decide)]
            rw [if_neg (fun q => c3 ((cd_m1 (by omega)).mp q)), hro, Option.bind_some, if_pos rfl]
        · rw [if_neg c2, if_pos rfl]) (fun s hI k kb => by
      obtain ⟨y, g⟩ := s
      obtain ⟨hy, _⟩ := hI
      dsimp only at hy
      subst hy
      unfold F_X2_findLinks_p_19B
      dsimp only
      rw [if_pos (by decide), lt_def, nI_1]) 5 0 FU (0, si g 27 r 0) rfl (by decide) ⟨rfl, fun a i ha => by
        show gi (si g 27 r 0) a i = _
        rw [gi_si, if_neg (by omega)]; exact hF.1 a i ha, fun a i => hF.2.1 a i, by
        show gi (si g 27 r 0) 27 r = _
        rw [gi_same]; rfl, fun q hq => by
        show gi (si g 27 r 0) 27 q = _
        rw [gi_si, if_neg (by omega)]; exact hF.2.2 q hq⟩
    refine ⟨(nI (r + 1), g'), ⟨rfl, hF1, hF2, fun q hq => ?_⟩, fun kb => ?_⟩
    · by_cases e : q = r
      · subst e; exact hF3
      · exact hF4 q (by omega)
    · unfold F_X2_findLinks_p_2B
      dsimp only
      rw [hWg.2.1, if_neg (nI_ge hr (by omega)), ck_true (inB_nI (by omega) (by decide)), nI_clamp (by omega), lt_def]
      exact h3 kb
  · obtain ⟨x, g⟩ := s
    obtain ⟨hx, hF⟩ := hI
    dsimp only at hx hF
    subst hx
    have hWg := rw' (r := 0) hF.1
    unfold F_X2_findLinks_p_2B
    dsimp only
    rw [hWg.2.1, if_pos (nI_le (Nat.le_refl _) (by omega))]
end LINKS2
