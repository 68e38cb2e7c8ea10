/-! least() on both sides -/
section KNOWN
variable {gx gm : GM} {S : St} {b wb P N z G K : Nat} {D : Dm}
theorem x_pi (hs : SS 6 b gx gm S) (hD : DSs S D) (hG : G < 2 ^ sR S) (hC : IC gx S D G) (h2 : gi gx 42 2 = nI G) : ∃ m ow nd hp, PI gx (sR S) m G (fun r => lkc S r 5) ow nd hp ∧ BDs S D low G m ow nd hp ∧ ∀ j, j < m → ¬ ow j = 0 → nd j ≤ pc (hp j) ∧ hp j < 2 ^ sR S ∧ hp j &&& G = 0 := by
  obtain ⟨⟨c1, c2, m, ow, nd, hp, c3, c4, c5, c6⟩, c7, c8⟩ := hC
  have n16 := hs.r16
  refine ⟨m, ow, nd, hp, ⟨n16.1, by have := hD.1; omega, n16.2.1, c3, hG, h2, fun r hr => ⟨hs.2.2.2.2 r hr, lkc_lt S r 5⟩, fun j hj => ?_⟩, c6, fun j hj ho => ?_⟩
  · obtain ⟨b1, b2, b3⟩ := c6.bnd hD low_le hj
    obtain ⟨e1, e2, e3⟩ := c5 j hj
    exact ⟨e1, e2, e3, b1, b2, b3⟩
  · obtain ⟨k, k1, k2⟩ := c6.1 j hj
    rcases k2 with ⟨a1, a2, a3, a4⟩ | ⟨a1, r, a2, a3, a4, a5, a6⟩
    · exact absurd a2 ho
    · exact ⟨by rw [a6]; exact Nat.min_le_right _ _, (c6.bnd hD low_le hj).2.2, by rw [a5]; exact adn_dis _ _⟩
theorem isB_cut {m : Nat} {ow nd hp : Nat → Nat} {r : Int32} (h : BDs S D low G m ow nd hp) (hD : DSs S D) (hn : sR S ≤ 16) (hr : (r = -1 ∧ ∀ s, ¬ Pc (sR S) m G (fun r => lkc S r 5) ow nd hp s) ∨ (∃ s, r = nI s ∧ Best (sR S) m G (fun r => lkc S r 5) ow nd hp K s)) : IsB S D G K r := by
  have hs := pc_same (lk := fun r => lkc S r 5) h hD hn
  rcases hr with ⟨h1, h2⟩ | ⟨s, h1, h2, h3⟩
  · exact Or.inl ⟨h1, fun s q => h2 s ((hs s).mpr q)⟩
  · exact Or.inr ⟨s, h1, h2.1, (hs s).mp h2, fun s' _ q => h3 s' ((hs s').mpr q)⟩
theorem IsB.cs {r : Int32} (h : IsB S D G K r) (hn : sR S ≤ 16) : (r = -1 ∧ ¬ 0 ≤ r) ∨ ∃ s, r = nI s ∧ s < 2 ^ sR S ∧ PcS S D G s ∧ 0 ≤ r ∧ ¬ r = -1 := by
  rcases h with ⟨h1, _⟩ | ⟨s, h1, h2, h3, _⟩
  · exact Or.inl ⟨h1, by rw [h1]; decide⟩
  · have := p16 hn h2
    exact Or.inr ⟨s, h1, h2, h3, by rw [h1]; exact nI_pos' (by omega), by rw [h1]; exact nI_ne1 this⟩
def NKm (a i : Nat) : Prop := (27 ≤ a ∧ a ≤ 30) ∨ (a = 0 ∧ (i = 51 ∨ i = 52))
theorem MB.nk {gm' : GM} (h : MB gx gm S b wb D P N z G) (ho : Ow NKm (fun _ _ => False) gm gm') : MB gx gm' S b wb D P N z G := h.ag (fun _ _ _ _ => ⟨rfl, rfl⟩) (fun a i q => ho.1 a i (by unfold NKm; unfold KM' BKm at q; omega)) (fun a i _ => ho.2 a i (fun q => q))
theorem m_known (h : MB gx gm S b wb D P N z G) (hM : IM gm S D G) : ∃ gm', F_X7_know gm = some gm' ∧ Ow NKm (fun _ _ => False) gm gm' ∧ CK gm' S D G ∧ IsB S D G 0 (gi gm' 0 51) ∧ ¬ gi gm' 0 52 = 0 := by
  by_cases c : gi gm 0 52 = 0
  · have o1 : Ow NKm (fun _ _ => False) gm (si gm 0 52 1) := (Ow.rf gm).si (Or.inr ⟨rfl, Or.inr rfl⟩)
    obtain ⟨g1, a1, a2, a3⟩ := m_lookAt (h.nk o1)
    have o2 : Ow NKm (fun _ _ => False) gm g1 := o1.tr ⟨fun a i q => a2.1 a i (fun r => q (Or.inl r)), fun a i _ => a2.2 a i⟩
    have hmp : MP (si g1 0 51 (-1)) (sR S) (dW D) G wb (fun r => lkc S r 5) (dF D) (dL D) (dN D) (asD S D G) := a3.os (k := 51) Os.si (by decide) (by decide) (by decide)
    obtain ⟨g2, b1, b2, b3⟩ := m_know hmp gi_same
    have o3 : Ow NKm (fun _ _ => False) gm g2 := (o2.si (Or.inr ⟨rfl, Or.inl rfl⟩)).tr ⟨fun a i q => b2.1 a i (fun r => q (Or.inr ⟨r.1, Or.inl r.2⟩)), fun a i _ => b2.2 a i⟩
    refine ⟨g2, ?_, o3, ?_, ?_, ?_⟩
    · unfold F_X7_know
      rw [if_pos c, lt_def, a1, Option.bind_some, lt_def]
      exact b1
    · exact a3.ck.ag (fun a i p q => by rw [b2.1 _ _ (by omega), gi_si, if_neg (by omega)])
    · rcases b3 with ⟨c1, c2⟩ | ⟨s, c1, c2⟩
      · exact Or.inl ⟨c1, c2⟩
      · exact Or.inr ⟨s, c1, c2⟩
    · rw [b2.1 _ _ (by omega), gi_si, if_neg (by decide), a2.1 _ _ (by omega), gi_same]; decide
  · obtain ⟨h1, h2⟩ := hM c
    refine ⟨gm, ?_, Ow.rf gm, h1, h2, c⟩
    unfold F_X7_know
    rw [if_neg c]
def NLx (a i : Nat) : Prop := a = 42 ∨ a = 5 ∨ (a = 0 ∧ (i = 9 ∨ i = 10 ∨ i = 11))
def QLx (a _i : Nat) : Prop := a = 42
theorem IC.ag {gx' : GM} (h : IC gx S D G) (hx : ∀ a i, 28 ≤ a → a ≤ 34 → gi gx' a i = gi gx a i) (h7 : gi gx' 0 7 = gi gx 0 7) : IC gx' S D G := ⟨h.1.ag (fun a i ha => hx _ _ (by omega) (by omega)), by rw [h7]; exact h.2.1, h.2.2⟩
theorem x_known (hs : SS 6 b gx gm S) (hD : DSs S D) (hG : G < 2 ^ sR S) (hC : IC gx S D G) (hL : IL gx S D G) : ∃ gx' r, F_X6_least gx = some (r, gx') ∧ Ow NLx QLx gx gx' ∧ IsB S D G 0 r ∧ gi gx' 0 10 = r ∧ ¬ gi gx' 0 9 = 0 ∧ IL gx' S D G := by
  have n16 := hs.r16
  by_cases c : gi gx 0 9 = 0
  · have e07 : gi (zi gx 42) 0 7 = nI G := by rw [zi_gi, if_neg (by decide)]; exact hC.2.1
    have e0 : (0 : Int32) &&& (nI G ^^^ (-1)) = nI 0 := by rw [show (0 : Int32) = nI 0 from rfl, nI_adn _ _ (by decide), show adn 0 G = 0 from adn_zero.mpr (fun i hi => by rw [Nat.zero_testBit] at hi; cases hi)]
    have nx : ∀ a i, ¬ a = 42 → gi (si (si (zi gx 42) 42 2 (nI G)) 42 3 (nI 0)) a i = gi gx a i := fun a i q => by rw [gi_si, if_neg (by omega), gi_si, if_neg (by omega), zi_gi, if_neg q]
    have lx : ∀ a i, ¬ a = 42 → gl (si (si (zi gx 42) 42 2 (nI G)) 42 3 (nI 0)) a i = gl gx a i := fun a i q => by rw [gl_si, gl_si, zi_gl, if_neg q]
    have hs2 : SS 6 b (si (si (zi gx 42) 42 2 (nI G)) 42 3 (nI 0)) gm S := hs.mv (fun a i ha => ⟨nx _ _ (by omega), lx _ _ (by omega)⟩) AgM.rf
    have hC2 : IC (si (si (zi gx 42) 42 2 (nI G)) 42 3 (nI 0)) S D G := hC.ag (fun a i p q => nx _ _ (by omega)) (nx _ _ (by decide))
    obtain ⟨m, ow, nd, hp, p1, p2, p3⟩ := x_pi hs2 hD hG hC2 (by rw [gi_si, if_neg (by decide), gi_same])
    obtain ⟨r, g4, q1, q2, q3⟩ := x_cut (K := 0) p1 (Nat.two_pow_pos _) gi_same hC.2.2 p3
    have hB : IsB S D G 0 r := isB_cut p2 hD n16.1 q3
    have eI : F_X0_init (gi (zi gx 42) 0 7) 0 (zi gx 42) = some (si (si (zi gx 42) 42 2 (nI G)) 42 3 (nI 0)) := by
      unfold F_X0_init
      rw [e07, e0, lt_def, lt_def]
    have n4 : ∀ a i, ¬ a = 42 → gi g4 a i = gi gx a i := fun a i q => by rw [q2.1 a i q]; exact nx a i q
    have l4 : ∀ a i, ¬ a = 42 → gl g4 a i = gl gx a i := fun a i q => by rw [q2.2 a i]; exact lx a i q
    have o4 : Ow NLx QLx gx g4 := ⟨fun a i q => n4 a i (fun e => q (Or.inl e)), fun a i q => l4 a i q⟩
    have o6 : Ow NLx QLx gx (si (si g4 0 10 r) 0 9 1) := (o4.si (Or.inr (Or.inr ⟨rfl, by omega⟩))).si (Or.inr (Or.inr ⟨rfl, by omega⟩))
    have e10 : gi (si (si g4 0 10 r) 0 9 1) 0 10 = r := by rw [gi_si, if_neg (by decide), gi_same]
    have e9 : gi (si (si g4 0 10 r) 0 9 1) 0 9 = 1 := gi_same
    have eF : F_X6_least gx = if r = -1 then some (gi (si (si (si g4 0 10 r) 0 9 1) 0 11 0) 0 10, si (si (si g4 0 10 r) 0 9 1) 0 11 0) else (F_X2_lineUp_s5 r (si (si g4 0 10 r) 0 9 1)).bind fun (r_7, g_8) => lt (si g_8 0 11 r_7) fun g_9 => some (gi g_9 0 10, g_9) := by
      unfold F_X6_least
      rw [if_pos c, lt_def, eI, Option.bind_some, q1, Option.bind_some]
      dsimp only
      rw [lt_def, lt_def, e10, lt_def]
    rcases hB.cs n16.1 with ⟨k1, _⟩ | ⟨s, k1, k2, k3, k4, k5⟩
    · have e10' : gi (si (si (si g4 0 10 r) 0 9 1) 0 11 0) 0 10 = r := by rw [gi_si, if_neg (by decide)]; exact e10
      refine ⟨_, r, by rw [eF, if_pos k1, e10'], o6.si (Or.inr (Or.inr ⟨rfl, by omega⟩)), hB, e10', by rw [gi_si, if_neg (by decide), e9]; decide, fun _ => ⟨by rw [e10']; exact hB, Or.inl ⟨by rw [e10']; exact k1, gi_same⟩⟩⟩
    · have f6 : gi (si (si g4 0 10 r) 0 9 1) 6 6 = nI (sR S) := by rw [gi_si, if_neg (by omega), gi_si, if_neg (by omega), n4 _ _ (by decide)]; exact n16.2.1
      have f16 : ∀ r', r' < sR S → gi (si (si g4 0 10 r) 0 9 1) 16 r' = nI (lkc S r' 5) := fun r' hr' => by rw [gi_si, if_neg (by omega), gi_si, if_neg (by omega), n4 _ _ (by decide)]; exact hs.2.2.2.2 r' hr'
      obtain ⟨g8, l1, l2, l3, l4', l5⟩ := x_lineUp n16.1 16 s 0 _ (by decide) k2 f6 f16 FU (by decide)
      have l1' : F_X2_lineUp_s5 r (si (si g4 0 10 r) 0 9 1) = some (nI (0 + (olx S 16 s).length), g8) := by
        unfold F_X2_lineUp_s5
        rw [k1] at l1 ⊢
        exact l1
      have e10' : gi (si g8 0 11 (nI (0 + (olx S 16 s).length))) 0 10 = r := by rw [gi_si, if_neg (by decide), l4' _ _ (by decide)]; exact e10
      refine ⟨si g8 0 11 (nI (0 + (olx S 16 s).length)), r, ?_, ?_, hB, e10', ?_, fun _ => ⟨by rw [e10']; exact hB, Or.inr ⟨s, by rw [e10']; exact k1, k2, ?_, fun j hj => ?_⟩⟩⟩
      · rw [eF, if_neg k5, l1', Option.bind_some]
        dsimp only
        rw [lt_def, e10']
      · exact (o6.tr (g3 := g8) ⟨fun a i q => l4' a i (fun e => q (Or.inr (Or.inl e))), fun a i _ => l5 a i⟩).si (Or.inr (Or.inr ⟨rfl, by omega⟩))
      · rw [gi_si, if_neg (by decide), l4' _ _ (by decide), e9]; decide
      · rw [gi_same, Nat.zero_add]
      · have := l2 j hj
        rw [Nat.zero_add] at this
        rw [gi_si, if_neg (by omega)]; exact this
  · obtain ⟨h1, h2⟩ := hL c
    refine ⟨gx, gi gx 0 10, ?_, Ow.rf gx, h1, rfl, c, hL⟩
    unfold F_X6_least
    rw [if_neg c]
end KNOWN
/-- least() keeps all -/
theorem i_least {gx gm : GM} {len : Nat} {tx : Nat → Nat} {b wb : Nat} {S : St} {D : Dm} {P N z G K : Nat} (h : INW gx gm len tx b wb S D P N z G K) : ∃ gx' gm' r, F_X6_least gx = some (r, gx') ∧ F_X7_know gm = some gm' ∧ gi gm' 0 51 = r ∧ IsB S D G 0 r ∧ INW gx' gm' len tx b wb S D P N z G K ∧ CK gm' S D G ∧ gi gx' 0 10 = r ∧ ¬ gi gx' 0 9 = 0 := by
  obtain ⟨hA, hB, hC, hK, hY, hL, hS, hM⟩ := h
  obtain ⟨gx', r, a1, a2, a3, a4, a5, a6⟩ := x_known hB.1 hB.2.2.2.2.2.1 hB.2.2.2.2.2.2.2.2.2.1 hC hL
  obtain ⟨gm', b1, b2, b3, b4, b5⟩ := m_known hB hM
  have er : gi gm' 0 51 = r := b4.uniq a3
  have nx : ∀ a i, ¬ NLx a i → gi gx' a i = gi gx a i := a2.1
  have nm : ∀ a i, ¬ NKm a i → gi gm' a i = gi gm a i := b2.1
  refine ⟨gx', gm', r, a1, b1, er, a3, ⟨⟨⟨hA.1.1, ?_, ?_, fun j hj => ⟨(hA.1.2.2.2 j hj).1, ?_, ?_⟩⟩, fun i hi => ?_, ?_, ?_⟩, (hB.nk b2).ag (fun a i p q => ⟨nx _ _ (by unfold NLx; omega), a2.2 _ _ (by unfold QLx; omega)⟩) (fun _ _ _ => rfl) (fun _ _ _ => rfl), hC.ag (fun a i p q => nx _ _ (by unfold NLx; omega)) (nx _ _ (by unfold NLx; omega)), ⟨hK.1, by rw [nx _ _ (by unfold NLx; omega)]; exact hK.2.1, by rw [nm _ _ (by unfold NKm; omega)]; exact hK.2.2⟩, fun j hj => ?_, a6, fun q => ?_, fun _ => ⟨b3, b4⟩⟩, b3, a4, a5⟩
  · rw [nx _ _ (by unfold NLx; omega)]; exact hA.1.2.1
  · rw [nm _ _ (by unfold NKm; omega)]; exact hA.1.2.2.1
  · rw [nx _ _ (by unfold NLx; omega)]; exact (hA.1.2.2.2 j hj).2.1
  · rw [nm _ _ (by unfold NKm; omega)]; exact (hA.1.2.2.2 j hj).2.2
  · rw [a2.2 _ _ (by unfold QLx; omega)]; exact hA.2.1 i hi
  · rw [nx _ _ (by unfold NLx; omega), nm _ _ (by unfold NKm; omega)]; exact hA.2.2.1
  · rw [nx _ _ (by unfold NLx; omega), nm _ _ (by unfold NKm; omega)]; exact hA.2.2.2
  · rw [nx _ _ (by unfold NLx; omega), nm _ _ (by unfold NKm; omega)]; exact hY j hj
  · rw [nx _ _ (by unfold NLx; omega)] at q ⊢
    exact hS q
