/-! cut -/
section CUT2
variable {n m G : Nat} {lk ow nd hp : Nat → Nat}
theorem pcn_top {a k : Nat} (ha : a < 2 ^ k) : ∀ j, pcn a (k + j) = pcn a k := by
  intro j
  induction j with
  | zero => rfl
  | succ j ih =>
    show pcn a (k + j) + a / 2 ^ (k + j) % 2 = _
    rw [ih, Nat.div_eq_of_lt (Nat.lt_of_lt_of_le ha (Nat.pow_le_pow_right (by decide) (by omega)))]
    rfl
theorem pc_len {a k : Nat} (ha : a < 2 ^ k) (hk : k ≤ 16) : pc a ≤ k := by
  have h := pcn_top ha (16 - k)
  rw [show k + (16 - k) = 16 by omega] at h
  unfold pc
  rw [h]
  exact pcn_le a k
theorem chg_len {K S : Nat} (hn : n ≤ 16) (hK : K < 2 ^ n) (hS : S < 2 ^ n) : chg K S ≤ n := by
  unfold chg
  rw [← pc_disj (and_zero.mpr (fun i hi => by
    rw [adn_bit, Bool.and_eq_true] at hi
    rw [adn_bit, hi.1]
    simp))]
  exact pc_len (or_lt (adn_lt hS) (adn_lt hK)) hn
/-- S is the best piece -/
def Best (n m G : Nat) (lk ow nd hp : Nat → Nat) (K S : Nat) : Prop := Pc n m G lk ow nd hp S ∧ ∀ S', Pc n m G lk ow nd hp S' → ¬ S' = S → chg K S < chg K S' ∨ (chg K S = chg K S' ∧ (pc S < pc S' ∨ (pc S = pc S' ∧ Ah S S')))
/-- what cut knows of its memory -/
def CG (g0 : GM) (n m G : Nat) (lk ow nd hp : Nat → Nat) (K : Nat) (g : GM) : Prop := PI g n m G lk ow nd hp ∧ gi g 42 3 = nI K ∧ Off 42 g0 g
theorem CG.si {g0 g : GM} {K k : Nat} {v : Int32} (h : CG g0 n m G lk ow nd hp K g) (h2 : ¬ k = 2) (h3 : ¬ k = 3) : CG g0 n m G lk ow nd hp K (si g 42 k v) :=
  ⟨h.1.off Off.si (by rw [gi_si, if_neg (fun q => h2 q.2.symm)]), by rw [gi_si, if_neg (fun q => h3 q.2.symm)]; exact h.2.1, h.2.2.tr Off.si⟩
/-- S has the fewest changes, and is first among those with as few -/
def Bst1 (n m G : Nat) (lk ow nd hp : Nat → Nat) (K c S : Nat) : Prop := Pc n m G lk ow nd hp S ∧ chg K S = c ∧ (∀ S', Pc n m G lk ow nd hp S' → c ≤ chg K S') ∧ ∀ S', Pc n m G lk ow nd hp S' → chg K S' = c → ¬ S' = S → Ah S S'
theorem x_cut2 {g0 g : GM} {K c S : Nat} (hK : K < 2 ^ n) (hc : c ≤ 16) (hG : CG g0 n m G lk ow nd hp K g) (h4 : gi g 42 4 = nI c) (hS : Bst1 n m G lk ow nd hp K c S) :
    ∃ r, (∃ S g', r = (nI S, g') ∧ Best n m G lk ow nd hp K S ∧ Off 42 g0 g') ∧ F_X0_cut_76 (nI S) g = some r := by
  have hn := hG.1.1
  have hS16 := p16 hn hS.1.1
  unfold F_X0_cut_76
  rw [hG.2.1]
  have fin : ∀ S', Pc n m G lk ow nd hp S' → ¬ S' = S → (chg K S' = c → pc S ≤ pc S') → chg K S < chg K S' ∨ (chg K S = chg K S' ∧ (pc S < pc S' ∨ (pc S = pc S' ∧ Ah S S'))) := by
    intro S' h1 h2 h3
    have h5 := hS.2.2.1 S' h1
    by_cases e : chg K S' = c
    · have h6 := h3 e
      refine Or.inr ⟨by rw [hS.2.1, e], ?_⟩
      by_cases e2 : pc S = pc S'
      · exact Or.inr ⟨e2, hS.2.2.2 S' h1 e h2⟩
      · exact Or.inl (by omega)
    · exact Or.inl (by rw [hS.2.1]; omega)
  by_cases c0 : K = 0
  · subst c0
    rw [if_pos (show nI 0 = 0 from rfl)]
    refine ⟨(nI S, g), ⟨S, g, rfl, ⟨hS.1, fun S' h1 h2 => fin S' h1 h2 (fun e => ?_)⟩, hG.2.2⟩, ?_⟩
    · have h0 : ∀ T, chg 0 T = pc T := by
        intro T
        unfold chg
        have e1 : adn T 0 = T := by simp [adn]
        have e2 : adn 0 T = 0 := by simp [adn]
        rw [e1, e2]
        rfl
      have := hS.2.1
      rw [h0] at this e
      omega
    · unfold F_X0_cut_93
      show F_X0_cut_99B (nI S) (-1) _ (-1, 0, g) = _
      unfold F_X0_cut_99B F_X0_cut_133
      dsimp only
      rw [if_pos (by decide), if_pos rfl]
  · rw [if_neg (fun q => c0 ((nI_z (p16 hn hK)).mp q)), j_bitCount hS16, Option.bind_some]
    unfold F_X0_cut_93
    have hpS := pc_le S
    have hcmp : ∀ i, i ≤ 20 → (nI (pc S) - 1 < nI i ↔ pc S ≤ i) := by
      intro i hi
      have h1 := sub_toInt (a := pc S) (b := 1) (by omega) (by decide)
      rw [Int32.lt_iff_toInt_lt, show (1 : Int32) = nI 1 from rfl, h1, nI_toInt (by omega)]
      omega
    refine fix_inv (I := fun i st => (∃ g', st = (-1, nI i, g') ∧ CG g0 n m G lk ow nd hp K g' ∧ gi g' 42 4 = nI c ∧ i ≤ pc S ∧ ∀ S', Pc n m G lk ow nd hp S' → chg K S' = c → i ≤ pc S') ∨ (∃ F g', st = (nI F, nI i, g') ∧ i ≤ pc S ∧ Off 42 g0 g' ∧ Best n m G lk ow nd hp K F)) (R := fun r => ∃ S g', r = (nI S, g') ∧ Best n m G lk ow nd hp K S ∧ Off 42 g0 g') (pc S) ?_ ?_ (pc S) 0 FU (-1, nI 0, g) (by omega) (by show pc S < 70000; omega) (Or.inl ⟨g, rfl, hG, h4, Nat.zero_le _, fun _ _ _ => Nat.zero_le _⟩)
    · rintro i st hi (⟨g', rfl, hG', h4', hi2, hmin⟩ | ⟨F, g', rfl, hi2, hoff, hB⟩)
      · refine Or.inl ?_
        have hG1 := hG'.si (k := 5) (v := nI i) (by decide) (by decide)
        have hL : LM (si g' 42 5 (nI i)) n K c i := ⟨hK, by omega, by omega, hG1.2.1, by rw [gi_si, if_neg (by decide)]; exact h4', by rw [gi_si, if_pos ⟨rfl, rfl⟩]⟩
        obtain ⟨r, hr, e⟩ := x_search hG1.1 hL 20 0 0 G (by omega) (Nat.zero_le _) (Nat.two_pow_pos n) hG1.1.2.2.2.2.1 (Sub.rf G) (fun j hj => by omega)
        have step : ∀ kb, F_X0_cut_99B (nI S) (nI (pc S) - 1) kb (-1, nI i, g') = kb (r, nI (i + 1), si g' 42 5 (nI i)) := by
          intro kb
          unfold F_X0_cut_99B
          dsimp only
          rw [if_neg (fun q => by have := (hcmp i (by omega)).mp q; omega), if_pos rfl, lt_def, hG1.1.2.2.2.2.2.1]
          have e' : F_X0_search 20 0 0 (nI G) (si g' 42 5 (nI i)) = some r := e
          rw [e', Option.bind_some, nI_1]
          rfl
        rcases hr with ⟨rfl, hno⟩ | ⟨F, rfl, hGF, _, _, hAh⟩
        · refine ⟨_, Or.inl ⟨_, rfl, hG1, by rw [gi_si, if_neg (by decide)]; exact h4', by omega, fun S' h1 h2 => ?_⟩, step⟩
          have h3 := hmin S' h1 h2
          by_cases e1 : pc S' = i
          · exact (hno S' ⟨h1, by omega, by omega⟩ (fun k hk => by rw [Nat.zero_testBit] at hk; cases hk) h1.2.1).elim
          · omega
        · refine ⟨_, Or.inr ⟨F, _, rfl, by omega, hG1.2.2, hGF.1, fun S' h1 h2 => ?_⟩, step⟩
          have hF : chg K F = c := Nat.le_antisymm hGF.2.2 (hS.2.2.1 F hGF.1)
          have hF2 := hmin F hGF.1 hF
          have hFi : pc F = i := Nat.le_antisymm hGF.2.1 hF2
          have h5 := hS.2.2.1 S' h1
          by_cases e1 : chg K S' = c
          · refine Or.inr ⟨by omega, ?_⟩
            have h6 := hmin S' h1 e1
            by_cases e2 : pc S' = i
            · exact Or.inr ⟨by omega, hAh S' ⟨h1, by omega, by omega⟩ (fun k hk => by rw [Nat.zero_testBit] at hk; cases hk) h1.2.1 h2⟩
            · exact Or.inl (by omega)
          · exact Or.inl (by omega)
      · refine Or.inr ⟨(nI F, g'), ⟨F, g', rfl, hB, hoff⟩, fun kb => ?_⟩
        unfold F_X0_cut_99B F_X0_cut_133
        dsimp only
        rw [if_neg (fun q => by have := (hcmp i (by omega)).mp q; omega), if_neg (nI_ne1 (p16 hn hB.1.1)), if_neg (nI_ne1 (p16 hn hB.1.1))]
    · rintro st (⟨g', rfl, hG', h4', hi2, hmin⟩ | ⟨F, g', rfl, hi2, hoff, hB⟩)
      · refine ⟨(nI S, g'), ⟨S, g', rfl, ⟨hS.1, fun S' h1 h2 => fin S' h1 h2 (fun e => hmin S' h1 e)⟩, hG'.2.2⟩, fun kb => ?_⟩
        unfold F_X0_cut_99B F_X0_cut_133
        dsimp only
        rw [if_pos ((hcmp (pc S) (by omega)).mpr (Nat.le_refl _)), if_pos rfl]
      · refine ⟨(nI F, g'), ⟨F, g', rfl, hB, hoff⟩, fun kb => ?_⟩
        unfold F_X0_cut_99B F_X0_cut_133
        dsimp only
        rw [if_pos ((hcmp (pc S) (by omega)).mpr (Nat.le_refl _)), if_neg (nI_ne1 (p16 hn hB.1.1))]
/-- if any piece is there, all rows that are left are one -/
theorem full_piece (hn : n ≤ 16) {S : Nat} (hG : G < 2 ^ n) (hlk : ∀ r, r < n → lk r < 2 ^ n) (H1 : ∀ r, r < n → G.testBit r = false → lk r &&& G = 0) (H2 : ∀ j, j < m → ¬ ow j = 0 → nd j ≤ pc (hp j) ∧ hp j < 2 ^ n ∧ hp j &&& G = 0) (hS : Pc n m G lk ow nd hp S) : Pc n m G lk ow nd hp (adn (2 ^ n - 1) G) := by
  have fb : ∀ i, (adn (2 ^ n - 1) G).testBit i = (decide (i < n) && !G.testBit i) := by
    intro i
    rw [adn_bit, Nat.testBit_two_pow_sub_one]
  have hSf : Sub S (adn (2 ^ n - 1) G) := by
    intro i hi
    rw [fb, and_zero.mp hS.2.1 i hi]
    simp [bits_lt hS.1 hi]
  have hin : ∀ a, a < 2 ^ n → a &&& G = 0 → Sub a (adn (2 ^ n - 1) G) := by
    intro a h1 h2 i hi
    rw [fb, and_zero.mp h2 i hi]
    simp [bits_lt h1 hi]
  refine ⟨adn_lt (by have := Nat.two_pow_pos n; omega), and_zero.mpr (fun i hi => ?_), fun r hr hb => ?_, fun j hj hb => ?_⟩
  · rw [fb] at hi
    simp at hi
    exact hi.2
  · rw [fb] at hb
    simp at hb
    exact hin _ (hlk r hr) (H1 r hr hb.2)
  · by_cases c : ow j = 0
    · have h1 := hS.2.2.2 j hj (Or.inl c)
      have h2 : pc (hp j &&& S) ≤ pc (hp j &&& adn (2 ^ n - 1) G) := pc_mono (fun i hi => by
        rw [Nat.testBit_and, Bool.and_eq_true] at hi
        rw [Nat.testBit_and, hi.1, hSf i hi.2]
        rfl)
      omega
    · obtain ⟨h1, h2, h3⟩ := H2 j hj c
      have h4 : pc (hp j) ≤ pc (hp j &&& adn (2 ^ n - 1) G) := pc_mono (fun i hi => by
        rw [Nat.testBit_and, hi, hin _ h2 h3 i hi]
        rfl)
      omega
theorem x_allRows {g : GM} (hn : n ≤ 16) (h : gi g 6 6 = nI n) : F_X2_allRows_s g = some (nI (2 ^ n - 1)) := by
  unfold F_X2_allRows_s
  rw [h, shl1 (by omega), show (1 : Int32) = nI 1 from rfl, nI_sub (Nat.two_pow_pos n)]
theorem x_cut {g : GM} {K : Nat} (hP : PI g n m G lk ow nd hp) (hK : K < 2 ^ n) (h3 : gi g 42 3 = nI K) (H1 : ∀ r, r < n → G.testBit r = false → lk r &&& G = 0) (H2 : ∀ j, j < m → ¬ ow j = 0 → nd j ≤ pc (hp j) ∧ hp j < 2 ^ n ∧ hp j &&& G = 0) :
    ∃ r g', F_X0_cut g = some (r, g') ∧ Off 42 g g' ∧ ((r = -1 ∧ ∀ S, ¬ Pc n m G lk ow nd hp S) ∨ (∃ S, r = nI S ∧ Best n m G lk ow nd hp K S)) := by
  have hn := hP.1
  have hG := hP.2.2.2.2.1
  have hf2 : adn (2 ^ n - 1) G < 2 ^ n := adn_lt (by have := Nat.two_pow_pos n; omega)
  have hb : 2 ^ n ≤ 2 ^ 16 := Nat.pow_le_pow_right (by decide) hn
  have e0 : F_X0_cut g = (F_X0_isPiece (nI (adn (2 ^ n - 1) G)) g).bind fun r_11 => if r_11 = 0 then some (-1, g) else fixN F_X0_cut_38B FU (-1, 0, si g 42 5 (nI n)) := by
    unfold F_X0_cut
    rw [x_allRows hn hP.2.2.1, Option.bind_some, hP.2.2.2.2.2.1, nI_adn _ _ (by omega), hP.2.2.1]
    rfl
  rw [e0]
  obtain ⟨p1, p2⟩ := x_isPiece hP hf2
  by_cases c : Pc n m G lk ow nd hp (adn (2 ^ n - 1) G)
  · rw [p1 c, Option.bind_some, if_neg (by decide)]
    have hCG0 : CG g n m G lk ow nd hp K g := ⟨hP, h3, Off.rf 42 g⟩
    have hCG := hCG0.si (k := 5) (v := nI n) (by decide) (by decide)
    have key : ∃ r, (∃ S g', r = (nI S, g') ∧ Best n m G lk ow nd hp K S ∧ Off 42 g g') ∧ fixN F_X0_cut_38B FU (-1, nI 0, si g 42 5 (nI n)) = some r := by
      refine fix_inv (I := fun i st => (∃ g', st = (-1, nI i, g') ∧ CG g n m G lk ow nd hp K g' ∧ gi g' 42 5 = nI n ∧ i ≤ n + 1 ∧ ∀ S', Pc n m G lk ow nd hp S' → i ≤ chg K S') ∨ (∃ c S g', st = (nI S, nI i, g') ∧ c ≤ n ∧ CG g n m G lk ow nd hp K g' ∧ gi g' 42 4 = nI c ∧ Bst1 n m G lk ow nd hp K c S)) (R := fun r => ∃ S g', r = (nI S, g') ∧ Best n m G lk ow nd hp K S ∧ Off 42 g g') (n + 1) ?_ ?_ (n + 1) 0 FU (-1, nI 0, si g 42 5 (nI n)) (by omega) (by show n + 1 < 70000; omega) (Or.inl ⟨_, rfl, hCG, by rw [gi_si, if_pos ⟨rfl, rfl⟩], Nat.zero_le _, fun _ _ => Nat.zero_le _⟩)
      · rintro i st hi (⟨g', rfl, hG', h5', hi2, hmin⟩ | ⟨c1, S, g', rfl, hc1, hG', h4', hB⟩)
        · refine Or.inl ?_
          have hG1 := hG'.si (k := 4) (v := nI i) (by decide) (by decide)
          have hL : LM (si g' 42 4 (nI i)) n K i n := ⟨hK, by omega, by omega, hG1.2.1, by rw [gi_si, if_pos ⟨rfl, rfl⟩], by rw [gi_si, if_neg (by decide)]; exact h5'⟩
          obtain ⟨r, hr, e⟩ := x_search hG1.1 hL 20 0 0 G (by omega) (Nat.zero_le _) (Nat.two_pow_pos n) hG1.1.2.2.2.2.1 (Sub.rf G) (fun j hj => by omega)
          have step : ∀ kb, F_X0_cut_38B kb (-1, nI i, g') = kb (r, nI (i + 1), si g' 42 4 (nI i)) := by
            intro kb
            unfold F_X0_cut_38B
            dsimp only
            rw [hG'.1.2.2.1, if_neg (nI_nlt (show i ≤ n by omega) (by omega)), if_pos rfl, lt_def, hG1.1.2.2.2.2.2.1]
            have e' : F_X0_search 20 0 0 (nI G) (si g' 42 4 (nI i)) = some r := e
            rw [e', Option.bind_some, nI_1]
            rfl
          rcases hr with ⟨rfl, hno⟩ | ⟨F, rfl, hGF, _, _, hAh⟩
          · refine ⟨_, Or.inl ⟨_, rfl, hG1, by rw [gi_si, if_neg (by decide)]; exact h5', by omega, fun S' h1 => ?_⟩, step⟩
            have h3 := hmin S' h1
            by_cases e1 : chg K S' = i
            · exact (hno S' ⟨h1, pc_len h1.1 hn, by omega⟩ (fun k hk => by rw [Nat.zero_testBit] at hk; cases hk) h1.2.1).elim
            · omega
          · refine ⟨_, Or.inr ⟨i, F, _, rfl, by omega, hG1, by rw [gi_si, if_pos ⟨rfl, rfl⟩], hGF.1, Nat.le_antisymm hGF.2.2 (hmin F hGF.1), hmin, fun S' h1 h2 h3 => hAh S' ⟨h1, pc_len h1.1 hn, by omega⟩ (fun k hk => by rw [Nat.zero_testBit] at hk; cases hk) h1.2.1 h3⟩, step⟩
        · refine Or.inr ?_
          obtain ⟨r, hr, e⟩ := x_cut2 hK (by omega) hG' h4' hB
          refine ⟨r, hr, fun kb => ?_⟩
          unfold F_X0_cut_38B
          dsimp only
          rw [hG'.1.2.2.1, if_neg (nI_nlt (show i ≤ n by omega) (by omega)), if_neg (nI_ne1 (p16 hn hB.1.1)), e]
      · rintro st (⟨g', rfl, hG', h5', hi2, hmin⟩ | ⟨c1, S, g', rfl, hc1, hG', h4', hB⟩)
        · have h1 := hmin _ c
          have h2 := chg_len hn hK hf2
          omega
        · obtain ⟨r, hr, e⟩ := x_cut2 hK (by omega) hG' h4' hB
          refine ⟨r, hr, fun kb => ?_⟩
          unfold F_X0_cut_38B
          dsimp only
          rw [hG'.1.2.2.1, if_pos (nI_lt (show n < n + 1 by omega) (by omega)), e]
    obtain ⟨_, ⟨S, g', rfl, hB, hoff⟩, e⟩ := key
    exact ⟨_, _, e, hoff, Or.inr ⟨S, rfl, hB⟩⟩
  · rw [p2 c, Option.bind_some, if_pos rfl]
    refine ⟨_, _, rfl, Off.rf 42 g, Or.inl ⟨rfl, fun S hS => c (full_piece hn hG (fun r hr => (hP.2.2.2.2.2.2.1 r hr).2) H1 H2 hS)⟩⟩
end CUT2
