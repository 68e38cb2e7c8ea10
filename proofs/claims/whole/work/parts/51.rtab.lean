/-! readTable on both sides -/
def sAddT (S : St) : St := ((sT S + 1, sR S), (fun t => if t = sT S then 0 else sC S t, fun t => if t = sT S then 0 else sQ S t, sL S), S.2.2)
theorem addT {b : Nat} {gx gm gx' gm' : GM} {S : St} {w v : Int64} (h : RA b gx gm S) (hT : sT S < 5) (hn : NR w v)
    (x1 : gl gx' 18 (sT S) = w) (x2 : gi gx' 19 (sT S) = 0) (x3 : gi gx' 20 (sT S) = 0) (x6 : gi gx' 17 0 = nI (sT S + 1)) (x4 : ∀ a i, ¬ (a = 19 ∧ i = sT S) → ¬ (a = 20 ∧ i = sT S) → ¬ (a = 17 ∧ i = 0) → 17 ≤ a → a ≤ 27 → gi gx' a i = gi gx a i) (x5 : ∀ a i, ¬ (a = 18 ∧ i = sT S) → 17 ≤ a → a ≤ 27 → gl gx' a i = gl gx a i)
    (y1 : gl gm' 3 (5 * b + sT S) = v) (y2 : gi gm' 5 (5 * b + sT S) = 0) (y3 : gi gm' 6 (5 * b + sT S) = 0) (y6 : gi gm' 12 b = nI (sT S + 1)) (y4 : ∀ a i, ¬ (a = 5 ∧ i = 5 * b + sT S) → ¬ (a = 6 ∧ i = 5 * b + sT S) → ¬ (a = 12 ∧ i = b) → 3 ≤ a → a ≤ 13 → gi gm' a i = gi gm a i) (y5 : ∀ a i, ¬ (a = 3 ∧ i = 5 * b + sT S) → 3 ≤ a → a ≤ 13 → gl gm' a i = gl gm a i) : RA b gx' gm' (sAddT S) := by
  obtain ⟨⟨h1, h2, h3, h4, h5⟩, ⟨r1, r2, r3, r4, r5⟩, ⟨q1, q2⟩⟩ := h
  have eC : ∀ t, ¬ t = sT S → sC (sAddT S) t = sC S t := fun t ht => if_neg ht
  have eQ : ∀ t, ¬ t = sT S → sQ (sAddT S) t = sQ S t := fun t ht => if_neg ht
  refine ⟨⟨h1, hT, x6, y6, fun t ht => ?_⟩, ⟨r1, ?_, ?_, fun r hr => ?_, fun u v hu hv => ?_⟩, ⟨fun r hr c hc => ?_, fun r z1 z2 c hc => ?_⟩⟩
  · by_cases e : t = sT S
    · subst e
      have e1 : sC (sAddT S) (sT S) = 0 := if_pos rfl
      have e2 : sQ (sAddT S) (sT S) = 0 := if_pos rfl
      refine ⟨by rw [e1]; omega, by rw [e2]; omega, by rw [x1, y1]; exact hn, by rw [e1]; exact x2, by rw [e1]; exact y2, by rw [e2]; exact x3, by rw [e2]; exact y3, fun c hc => by rw [e1] at hc; omega⟩
    · have ht' : t < sT S + 1 := ht
      obtain ⟨a1, a2, a3, a4, a5, a6, a7, a8⟩ := h5 t (by omega)
      refine ⟨by rw [eC t e]; exact a1, by rw [eQ t e]; exact a2, ?_, ?_, ?_, ?_, ?_, fun c hc' => ?_⟩
      · rw [x5 _ _ (by omega) (by omega) (by omega), y5 _ _ (by omega) (by omega) (by omega)]; exact a3
      · rw [eC t e, x4 _ _ (by omega) (by omega) (by omega) (by omega) (by omega)]; exact a4
      · rw [eC t e, y4 _ _ (by omega) (by omega) (by omega) (by omega) (by omega)]; exact a5
      · rw [eQ t e, x4 _ _ (by omega) (by omega) (by omega) (by omega) (by omega)]; exact a6
      · rw [eQ t e, y4 _ _ (by omega) (by omega) (by omega) (by omega) (by omega)]; exact a7
      · rw [eC t e] at hc'
        obtain ⟨c1, c2, c3, c4⟩ := a8 c hc'
        refine ⟨?_, ?_, ?_, ?_⟩
        · rw [x5 _ _ (by omega) (by omega) (by omega), y5 _ _ (by omega) (by omega) (by omega)]; exact c1
        · exact Nat.le_succ_of_le c2
        · rw [x4 _ _ (by omega) (by omega) (by omega) (by omega) (by omega)]; exact c3
        · rw [y4 _ _ (by omega) (by omega) (by omega) (by omega) (by omega)]; exact c4
  · rw [x4 _ _ (by omega) (by omega) (by omega) (by omega) (by omega)]; exact r2
  · rw [y4 _ _ (by omega) (by omega) (by omega) (by omega) (by omega)]; exact r3
  · obtain ⟨a1, a2, a3, a4, a5, a6, a7⟩ := r4 r hr
    have e1 : sC (sAddT S) (sB (sAddT S) r) = sC S (sB S r) := eC _ (show ¬ sB S r = sT S by omega)
    have e2 : sQ (sAddT S) (sB (sAddT S) r) = sQ S (sB S r) := eQ _ (show ¬ sB S r = sT S by omega)
    refine ⟨Nat.lt_succ_of_lt a1, by rw [e2]; exact a2, ?_, ?_, ?_, ?_, fun c hc' => ?_⟩
    · rw [x4 _ _ (by omega) (by omega) (by omega) (by omega) (by omega)]; exact a3
    · rw [y4 _ _ (by omega) (by omega) (by omega) (by omega) (by omega)]; exact a4
    · rw [x4 _ _ (by omega) (by omega) (by omega) (by omega) (by omega)]; exact a5
    · rw [y4 _ _ (by omega) (by omega) (by omega) (by omega) (by omega)]; exact a6
    · rw [e1] at hc'
      rw [y4 _ _ (by omega) (by omega) (by omega) (by omega) (by omega)]
      exact a7 c hc'
  · by_cases e : u = sT S
    · subst e
      have e2 : sQ (sAddT S) (sT S) = 0 := if_pos rfl
      rw [e2] at hv
      omega
    · rw [eQ u e] at hv
      have hu' : u < sT S + 1 := hu
      exact r5 u v (by omega) hv
  · have a1 := (r4 r hr).1
    have e1 : sC (sAddT S) (sB (sAddT S) r) = sC S (sB S r) := eC _ (show ¬ sB S r = sT S by omega)
    rw [e1, x4 _ _ (by omega) (by omega) (by omega) (by omega) (by omega), x4 _ _ (by omega) (by omega) (by omega) (by omega) (by omega), y4 _ _ (by omega) (by omega) (by omega) (by omega) (by omega)]
    exact q1 r hr c hc
  · rw [x4 _ _ (by omega) (by omega) (by omega) (by omega) (by omega)]
    exact q2 r z1 z2 c hc
theorem Ow.m0 {b : Nat} {g g' : GM} (h : Ow (PSm b) (QSm b) g g') {i : Nat} (hi : 10 < i) : gi g' 0 i = gi g 0 i := h.1 _ _ (fun q => by unfold PSm BKm at q; omega)
section RTAB
variable {gx gm : GM} {len : Nat} {tx : Nat → Nat} {t : Tk} {s e b : Nat} {S : St}
theorem s_tabEnd (hS : Sy gx gm len tx false t s e) : ∃ gx' gm', F_X3_readTable_195 gx = some gx' ∧ F_X7_readTable_205 gm = some gm' ∧ Ow PT QT gx gx' ∧ Ow PTm QTm gm gm' ∧ ((∃ t' s' e', Sy gx' gm' len tx false t' s' e') ∨ Fa gx' gm') := by
  obtain ⟨gx', gm', r, h1, h2, h3, h4, h5, h6⟩ := s_take hS (d := 59) (by decide)
  have h1' : F_X4_take 59 gx = some (r, gx') := h1
  have h2' : F_X7_is 59 gm = some r := h2
  refine ⟨gx', gm', ?_, ?_, h5, h6, ?_⟩
  · unfold F_X3_readTable_195
    rw [h1', Option.bind_some]
  · unfold F_X7_readTable_205
    rw [h2', Option.bind_some, h3, Option.bind_some]
  · rcases h4 with ⟨_, _, t', s', e', h, _⟩ | ⟨_, _, h⟩
    · exact Or.inl ⟨t', s', e', h⟩
    · exact Or.inr h
theorem f_tabEnd (hF : Fa gx gm) : F_X3_readTable_195 gx = some gx ∧ F_X7_readTable_205 gm = some gm := by
  obtain ⟨r, hr⟩ := hF.is 59
  refine ⟨?_, ?_⟩
  · unfold F_X3_readTable_195
    rw [hF.take, Option.bind_some]
  · unfold F_X7_readTable_205
    rw [hr, Option.bind_some, hF.must, Option.bind_some]
theorem x132_0 {T x : Int32} {kb : Int32 × Int32 × GM → Option GM} {g : GM} : F_X3_readTable_132B T kb (0, x, g) = F_X3_readTable_195 g := by
  unfold F_X3_readTable_132B
  dsimp only
  split <;> rfl
theorem m156_0 {T : Int32} {kb : Int32 × GM → Option GM} {g : GM} : F_X7_readTable_156B T kb (0, g) = F_X7_readTable_205 g := by
  unfold F_X7_readTable_156B
  dsimp only
  rw [if_pos rfl]
theorem s_cols {T : Nat} : ∀ d i gx gm S t s e, i + d = 6 → sC S T = i → Sy gx gm len tx false t s e → RA b gx gm S → gi gm 0 24 = nI b → T < sT S → (∀ r, r < sR S → ¬ sB S r = T) → ∀ n m, d < n → d < m → ∃ gx' gm', fixN (F_X3_readTable_132B (nI T)) n (1, nI i, gx) = some gx' ∧ fixN (F_X7_readTable_156B (nI (5 * b + T))) m (1, gm) = some gm' ∧ Ow PSx QSx gx gx' ∧ Ow (PSm b) (QSm b) gm gm' ∧ ((∃ t' s' e' S', Sy gx' gm' len tx false t' s' e' ∧ RA b gx' gm' S' ∧ sT S' = sT S ∧ sR S' = sR S) ∨ Fa gx' gm') := by
  intro d
  induction d with
  | zero =>
    intro i gx gm S t s e hi hc hS hA hrb hT hno n m hn hm
    have := (hA.1.2.2.2.2 T hT).1
    omega
  | succ d ih =>
    intro i gx gm S t s e hi hc hS hA hrb hT hno n m hn hm
    obtain ⟨n, rfl⟩ : ∃ k, n = k + 2 := ⟨n - 2, by omega⟩
    obtain ⟨m, rfl⟩ : ∃ k, m = k + 2 := ⟨m - 2, by omega⟩
    have hc5 := (hA.1.2.2.2.2 T hT).1
    obtain ⟨gx1, gm1, h1, h2, h3, h4, h5⟩ := s_readColumn hS hA hrb hT hno
    have stX : ∀ kb, F_X3_readTable_132B (nI T) kb (1, nI i, gx) = if (gi gx1 1 9) = 0 then if (gi gx1 1 5) = 44 then F_X3_readTable_175 kb (nI T) (nI i) 1 gx1 else F_X3_readTable_174 kb (nI T) (nI i) gx1 else F_X3_readTable_174 kb (nI T) (nI i) gx1 := by
      intro kb
      unfold F_X3_readTable_132B
      dsimp only
      rw [if_neg (show ¬ (5 : Int32) < nI i from nI_nlt (a := 5) (b := i) (by omega) (by decide)), if_neg (by decide), h1, Option.bind_some]
    have eX : fixN (F_X3_readTable_132B (nI T)) (n + 2) (1, nI i, gx) = _ := stX (fixN (F_X3_readTable_132B (nI T)) (n + 1))
    have stM : ∀ kb, F_X7_readTable_156B (nI (5 * b + T)) kb (1, gm) = (F_X7_isGood gm1).bind fun r_6 => if r_6 = 0 then F_X7_readTable_192 kb (nI (5 * b + T)) gm1 else (F_X7_is 44 gm1).bind fun r_7 => if r_7 = 0 then F_X7_readTable_192 kb (nI (5 * b + T)) gm1 else F_X7_readTable_193 kb (nI (5 * b + T)) 1 gm1 := by
      intro kb
      unfold F_X7_readTable_156B
      dsimp only
      rw [if_neg (by decide), m_good hS.f0m, Option.bind_some, if_neg (by decide), h2, Option.bind_some]
    have eM : fixN (F_X7_readTable_156B (nI (5 * b + T))) (m + 2) (1, gm) = _ := stM (fixN (F_X7_readTable_156B (nI (5 * b + T))) (m + 1))
    have eX0 : ∀ g, F_X3_readTable_174 (fixN (F_X3_readTable_132B (nI T)) (n + 1)) (nI T) (nI i) g = F_X3_readTable_195 g := by
      intro g
      unfold F_X3_readTable_174 F_X3_readTable_175 F_X3_readTable_189
      rw [if_pos rfl, lt_def]
      exact x132_0
    have eM0 : ∀ g, F_X7_readTable_192 (fixN (F_X7_readTable_156B (nI (5 * b + T))) (m + 1)) (nI (5 * b + T)) g = F_X7_readTable_205 g := by
      intro g
      unfold F_X7_readTable_192 F_X7_readTable_193
      rw [if_pos rfl]
      exact m156_0
    rw [eX, eM, eX0, eM0]
    rcases h5 with ⟨t1, s1, e1, l, p1, p2, p3⟩ | hF
    · rw [if_pos p1.f0x, m_good p1.f0m, Option.bind_some, if_neg (show ¬ (1 : Int32) = 0 by decide)]
      have hk : gi gx1 1 5 = 44 ↔ t1 = Tk.sgn 44 := by rw [p1.kx]; exact k_sgn p1.dx (d := 44) (by decide)
      by_cases c : t1 = Tk.sgn 44
      · have m1 : F_X7_is 44 gm1 = some 1 := (m_is p1 (d := 44) (by decide)).1 c
        obtain ⟨gx2, gm2, t2, s2, e2, q1, q2, q3, q4, q5, q6⟩ := s_adv p1
        rw [if_pos (hk.mpr c), m1, Option.bind_some, if_neg (show ¬ (1 : Int32) = 0 by decide)]
        unfold F_X3_readTable_175 F_X3_readTable_189 F_X7_readTable_193
        rw [if_neg (show ¬ (1 : Int32) = 0 by decide), if_neg (show ¬ (1 : Int32) = 0 by decide), q1, q2, Option.bind_some, Option.bind_some, lt_def, nI_1]
        have eC : sC (sAddC S T l) T = i + 1 := by
          have : sC (sAddC S T l) T = sC S T + 1 := if_pos rfl
          omega
        have r24 : gi gm2 0 24 = nI b := by rw [q6.1 _ _ (fun q => by have := q.2; omega), h4.m0 (by decide)]; exact hrb
        obtain ⟨gx3, gm3, u1, u2, u3, u4, u5⟩ := ih (i + 1) gx2 gm2 (sAddC S T l) t2 s2 e2 (by omega) eC q3 (p3.ow q5 q6) r24 hT hno (n + 1) (m + 1) (by omega) (by omega)
        exact ⟨gx3, gm3, u1, u2, (h3.tr q5.psx).tr u3, (h4.tr q6.psm).tr u4, u5⟩
      · have m1 : F_X7_is 44 gm1 = some 0 := (m_is p1 (d := 44) (by decide)).2 c
        rw [if_neg (fun q => c (hk.mp q)), m1, Option.bind_some, if_pos (show (0 : Int32) = 0 from rfl)]
        obtain ⟨gx2, gm2, q1, q2, q3, q4, q5⟩ := s_tabEnd p1
        refine ⟨gx2, gm2, q1, q2, h3.tr q3.psx, h4.tr q4.psm, ?_⟩
        rcases q5 with ⟨t', s', e', q⟩ | q
        · exact Or.inl ⟨t', s', e', sAddC S T l, q, p3.ow q3 q4, rfl, rfl⟩
        · exact Or.inr q
    · rw [if_neg hF.nx, hF.bad, Option.bind_some, if_pos (show (0 : Int32) = 0 from rfl)]
      obtain ⟨f1, f2⟩ := f_tabEnd hF
      exact ⟨gx1, gm1, f1, f2, h3, h4, Or.inr hF⟩
end RTAB
