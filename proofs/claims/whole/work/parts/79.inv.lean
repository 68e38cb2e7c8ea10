/-! what holds between two calls -/
section LOSE
variable {gx gm : GM} {S : St} {b G : Nat} {D : Dm} {q : Nat → Nat → Nat}
theorem x_lose {G0 : Nat} (h : DX 28 gx S D q G0) (hD : DSs S D) (hq' : ∀ n h, q n h ≤ n) (hn : sR S ≤ 16) (hG : Sub G0 G) (hGl : G < 2 ^ sR S) (hq : ∀ n l, min (q n (adn l G0)) (pc (adn l G)) = low n (adn l G)) : ∃ gx', F_X1_lose_d (nI G) gx = some gx' ∧ DX 28 gx' S D low G ∧ (∀ a i, ¬ (a = 33 ∨ a = 34) → gi gx' a i = gi gx a i) ∧ ∀ a i, gl gx' a i = gl gx a i := by
  obtain ⟨h1, h2, m, ow, nd, hp, h3, h4, h5, h6⟩ := h
  have hW := hD.1
  have hl := fix_to (B := F_X1_lose_d_2B (nI G)) (I := fun i s => s.1 = nI i ∧ (∀ a k, ¬ (a = 33 ∨ a = 34) → gi s.2 a k = gi gx a k) ∧ (∀ a k, gl s.2 a k = gl gx a k) ∧ (∀ j, j < m → i ≤ j → gi s.2 33 j = nI (nd j) ∧ gi s.2 34 j = nI (hp j)) ∧ ∀ j, j < m → j < i → gi s.2 33 j = nI (if ow j = 0 then nd j else min (nd j) (pc (adn (hp j) G))) ∧ gi s.2 34 j = nI (adn (hp j) G)) (E := fun s => some s.2) m (fun i s hi hI => ?_) (fun s hI kb => ?_) m 0 FU (0, gx) (by omega) (by show m < 70000; omega) ⟨rfl, fun _ _ _ => rfl, fun _ _ => rfl, fun j hj _ => (h5 j hj).2, fun j _ hj => by omega⟩
  · obtain ⟨⟨x, g'⟩, ⟨_, i1, i2, i3, i4⟩, he⟩ := hl
    dsimp only at i1 i2 i3 i4 he
    refine ⟨g', he, ⟨by rw [i1 _ _ (by omega)]; exact h1, fun k hk => by rw [i1 _ _ (by omega), i1 _ _ (by omega), i1 _ _ (by omega)]; exact h2 k hk, m, ow, _, _, by rw [i1 _ _ (by omega)]; exact h3, h4, fun j hj => ⟨by rw [i1 _ _ (by omega)]; exact (h5 j hj).1, (i4 j hj hj).1, (i4 j hj hj).2⟩, h6.lose hG hq⟩, i1, i2⟩
  · obtain ⟨x, g⟩ := s
    obtain ⟨hx, i1, i2, i3, i4⟩ := hI
    dsimp only at hx i1 i2 i3 i4
    subst hx
    obtain ⟨b1, b2, b3⟩ := h6.bnd hD hq' hi
    have b16 := p16 hn b3
    obtain ⟨k1, k2⟩ := i3 i hi (Nat.le_refl _)
    have k3 : gi g 32 i = nI (ow i) := by rw [i1 _ _ (by omega)]; exact (h5 i hi).1
    have e4 : gi g 28 4 = nI m := by rw [i1 _ _ (by omega)]; exact h3
    have c32 : gi (si g 34 i (nI (adn (hp i) G))) 32 i = nI (ow i) := by rw [gi_si, if_neg (by omega)]; exact k3
    have c33 : gi (si g 34 i (nI (adn (hp i) G))) 33 i = nI (nd i) := by rw [gi_si, if_neg (by omega)]; exact k1
    have c34 : gi (si g 34 i (nI (adn (hp i) G))) 34 i = nI (adn (hp i) G) := gi_same
    have hpc := pc_le (adn (hp i) G)
    have step : ∀ kb, F_X1_lose_d_2B (nI G) kb (nI i, g) = if ow i = 0 then kb (nI (i + 1), si g 34 i (nI (adn (hp i) G))) else kb (nI (i + 1), si (si g 34 i (nI (adn (hp i) G))) 33 i (nI (min (nd i) (pc (adn (hp i) G))))) := by
      intro kb
      unfold F_X1_lose_d_2B F_X1_lose_d_55
      dsimp only
      rw [e4, if_neg (nI_ge hi (by omega)), ck_true (inB_nI (by omega) (by decide)), ck_true (inB_nI (by omega) (by decide)), nI_clamp (by omega), k2, nI_adn _ _ (by omega), lt_def, ck_true (inB_nI (by omega) (by decide)), c32, c33, c34, j_bitCount (p16 hn (adn_lt b3)), Option.bind_some, j_min (by omega) (by omega), Option.bind_some]
      simp only [nI_z (p16 hn b1), ck_true (inB_nI (show i < 160 by omega) (by decide)), lt_def, nI_1]
    by_cases c : ow i = 0
    · refine ⟨(nI (i + 1), si g 34 i (nI (adn (hp i) G))), ⟨rfl, fun a k p => ?_, fun a k => i2 a k, fun j hj hij => ?_, fun j hj hij => ?_⟩, fun kb => by rw [step, if_pos c]⟩
      · show gi (si g 34 i _) a k = _
        rw [gi_si, if_neg (by omega)]; exact i1 a k p
      · show gi (si g 34 i _) 33 j = _ ∧ gi (si g 34 i _) 34 j = _
        rw [gi_si, if_neg (by omega), gi_si, if_neg (by omega)]; exact i3 j hj (by omega)
      · show gi (si g 34 i _) 33 j = _ ∧ gi (si g 34 i _) 34 j = _
        by_cases e : j = i
        · subst e; rw [if_pos c]; exact ⟨c33, c34⟩
        · have f33 : gi (si g 34 i (nI (adn (hp i) G))) 33 j = gi g 33 j := by rw [gi_si, if_neg (by omega)]
          have f34 : gi (si g 34 i (nI (adn (hp i) G))) 34 j = gi g 34 j := by rw [gi_si, if_neg (by omega)]
          rw [f33, f34]; exact i4 j hj (by omega)
    · refine ⟨(nI (i + 1), si (si g 34 i (nI (adn (hp i) G))) 33 i (nI (min (nd i) (pc (adn (hp i) G))))), ⟨rfl, fun a k p => ?_, fun a k => i2 a k, fun j hj hij => ?_, fun j hj hij => ?_⟩, fun kb => by rw [step, if_neg c]⟩
      · show gi (si (si g 34 i _) 33 i _) a k = _
        rw [gi_si, if_neg (by omega), gi_si, if_neg (by omega)]; exact i1 a k p
      · show gi (si (si g 34 i _) 33 i _) 33 j = _ ∧ gi (si (si g 34 i _) 33 i _) 34 j = _
        rw [gi_si, if_neg (by omega), gi_si, if_neg (by omega), gi_si, if_neg (by omega), gi_si, if_neg (by omega)]; exact i3 j hj (by omega)
      · show gi (si (si g 34 i _) 33 i _) 33 j = _ ∧ gi (si (si g 34 i _) 33 i _) 34 j = _
        by_cases e : j = i
        · subst e
          rw [if_neg c, gi_same, gi_si, if_neg (by omega)]; exact ⟨rfl, c34⟩
        · have f33 : gi (si (si g 34 i (nI (adn (hp i) G))) 33 i (nI (min (nd i) (pc (adn (hp i) G))))) 33 j = gi g 33 j := by rw [gi_si, if_neg (by omega), gi_si, if_neg (by omega)]
          have f34 : gi (si (si g 34 i (nI (adn (hp i) G))) 33 i (nI (min (nd i) (pc (adn (hp i) G))))) 34 j = gi g 34 j := by rw [gi_si, if_neg (by omega), gi_si, if_neg (by omega)]
          rw [f33, f34]; exact i4 j hj (by omega)
  · obtain ⟨x, g⟩ := s
    obtain ⟨hx, i1, _⟩ := hI
    dsimp only at hx i1
    subst hx
    have e4 : gi g 28 4 = nI m := by rw [i1 _ _ (by omega)]; exact h3
    unfold F_X1_lose_d_2B
    dsimp only
    rw [e4, if_pos (nI_le (Nat.le_refl _) (by omega))]
end LOSE
def PcS (S : St) (D : Dm) (G s : Nat) : Prop := Pcm (sR S) (dW D) G (fun r => lkc S r 5) (dF D) (dL D) (dN D) (asD S D G) s
def IsB (S : St) (D : Dm) (G K : Nat) (r : Int32) : Prop := (r = -1 ∧ ∀ s, ¬ PcS S D G s) ∨ ∃ s, r = nI s ∧ Bi (PcS S D G) K (2 ^ sR S) s
theorem IsB.uniq {S : St} {D : Dm} {G K : Nat} {r r' : Int32} (h : IsB S D G K r) (h' : IsB S D G K r') : r = r' := by
  rcases h with ⟨h1, h2⟩ | ⟨s, h1, h2⟩
  · rcases h' with ⟨h3, _⟩ | ⟨s, _, h4⟩
    · rw [h1, h3]
    · exact absurd h4.2.1 (h2 s)
  · rcases h' with ⟨_, h4⟩ | ⟨s', h3, h4⟩
    · exact absurd h2.2.1 (h4 s)
    · rw [h1, h3, h2.uniq h4]
/-- the reference's tables of sets -/
def CK (gm : GM) (S : St) (D : Dm) (G : Nat) : Prop := (∀ r, r < sR S → gi gm 28 r = nI (lkc S r 5)) ∧ ∀ k, k < dW D → gi gm 29 k = nI (dF D k) ∧ ∀ r, r < sR S → gi gm 30 (16 * k + r) = nI (asD S D G k r)
theorem CK.ag {gm gm' : GM} {S : St} {D : Dm} {G : Nat} (h : CK gm S D G) (hg : ∀ a i, 28 ≤ a → a ≤ 30 → gi gm' a i = gi gm a i) : CK gm' S D G := ⟨fun r hr => by rw [hg _ _ (by decide) (by decide)]; exact h.1 r hr, fun k hk => ⟨by rw [hg _ _ (by decide) (by decide)]; exact (h.2 k hk).1, fun r hr => by rw [hg _ _ (by decide) (by decide)]; exact (h.2 k hk).2 r hr⟩⟩
section MBS
variable {gx gm : GM} {S : St} {b wb P N z G : Nat} {D : Dm}
theorem MB.mp (h : MB gx gm S b wb D P N z G) (hc : CK gm S D G) : MP gm (sR S) (dW D) G wb (fun r => lkc S r 5) (dF D) (dL D) (dN D) (asD S D G) := by
  obtain ⟨g1, g23, gwb, g37, g14, gDS, gDK, _, _, gG, g49⟩ := h
  have n16 := g1.r16
  refine ⟨n16.1, gDS.1, ⟨b, n16.2.2.2.1, g23, n16.2.2.1⟩, ⟨gwb, g37, g14⟩, ⟨gG, g49⟩, fun r hr => ⟨hc.1 r hr, lkc_lt S r 5⟩, fun k hk => ?_⟩
  obtain ⟨d1, d2, d3, d4⟩ := gDK k hk
  obtain ⟨s1, s2, s3, s4, s5, s6⟩ := gDS.2 k hk
  refine ⟨d2, s3, fun q => ?_, fun q => ?_, (hc.2 k hk).1, s4, fun r hr => ⟨(hc.2 k hk).2 r hr, ?_⟩⟩
  · rw [(d3 q).1]; exact nI_pos (by have := (s6 q).1; omega)
  · rw [(d4 q).1]; decide
  · unfold asD
    split
    · exact adn_lt (lkr_lt _ _ _ _)
    · exact Nat.two_pow_pos _
theorem MP.ck {wk : Nat} (h : MP gm (sR S) (dW D) G wk (fun r => lkc S r 5) (dF D) (dL D) (dN D) (asD S D G)) : CK gm S D G := ⟨fun r hr => (h.2.2.2.2.2.1 r hr).1, fun k hk => by
  obtain ⟨a1, a2, a3, a4, a5, a6, a7⟩ := h.2.2.2.2.2.2 k hk
  exact ⟨a5, fun r hr => (a7 r hr).1⟩⟩
/-- the cells of the reference on which all rests -/
def KM' (b wb a i : Nat) : Prop := BKm b a i ∨ (a = 0 ∧ (i = 23 ∨ i = 37 ∨ i = 49)) ∨ (a = 14 ∧ i = wb) ∨ (15 ≤ a ∧ a ≤ 20 ∧ 10 * wb ≤ i ∧ i < 10 * wb + 10) ∨ ((a = 21 ∨ a = 22) ∧ 600 * wb ≤ i ∧ i < 600 * wb + 600) ∨ ((a = 23 ∨ a = 24) ∧ 40 * wb ≤ i ∧ i < 40 * wb + 40) ∨ (a = 25 ∧ 160 * wb ≤ i ∧ i < 160 * wb + 160)
theorem DK.ag6 {gm' : GM} {k T n u c f : Nat} {l : Bool} (h : DK gm S b wb P N z k l T n u c f) (hk : k < 10) (hP : P ≤ 40) (hN : N ≤ 160) (hg : ∀ a i, KM' b wb a i → gi gm' a i = gi gm a i) : DK gm' S b wb P N z k l T n u c f := by
  have h1 : ∀ a, 15 ≤ a → a ≤ 20 → gi gm' a (10 * wb + k) = gi gm a (10 * wb + k) := fun a p q => hg _ _ (Or.inr (Or.inr (Or.inr (Or.inl ⟨p, q, by omega, by omega⟩))))
  obtain ⟨a1, a2, a3, a4⟩ := h
  refine ⟨by rw [h1 _ (by decide) (by decide)]; exact a1, by rw [h1 _ (by decide) (by decide)]; exact a2, fun hl => ⟨by rw [h1 _ (by decide) (by decide)]; exact (a3 hl).1, by rw [h1 _ (by decide) (by decide)]; exact (a3 hl).2⟩, fun hl => ?_⟩
  obtain ⟨b1, a, y, b2, b3, b4, b5, lp, b6, b7⟩ := a4 hl
  refine ⟨by rw [h1 _ (by decide) (by decide)]; exact b1, a, y, by rw [h1 _ (by decide) (by decide)]; exact b2, by rw [h1 _ (by decide) (by decide)]; exact b3, b4, b5, lp, Pg.ag (zz := 600) (fun i hi => ⟨hg _ _ ?_, hg _ _ ?_⟩) (fun i hi => ⟨hg _ _ ?_, hg _ _ ?_⟩) (fun i hi => hg _ _ ?_) (Nat.le_refl _) hP (Nat.le_refl _) hN b5 b6, b7⟩
  · exact Or.inr (Or.inr (Or.inr (Or.inr (Or.inl ⟨Or.inl rfl, by omega, by omega⟩))))
  · exact Or.inr (Or.inr (Or.inr (Or.inr (Or.inl ⟨Or.inr rfl, by omega, by omega⟩))))
  · exact Or.inr (Or.inr (Or.inr (Or.inr (Or.inr (Or.inl ⟨Or.inl rfl, by omega, by omega⟩)))))
  · exact Or.inr (Or.inr (Or.inr (Or.inr (Or.inr (Or.inl ⟨Or.inr rfl, by omega, by omega⟩)))))
  · exact Or.inr (Or.inr (Or.inr (Or.inr (Or.inr (Or.inr ⟨rfl, by omega, by omega⟩)))))
theorem MB.ag {gx' gm' : GM} (h : MB gx gm S b wb D P N z G) (hx : ∀ a i, 6 ≤ a → a ≤ 16 → gi gx' a i = gi gx a i ∧ gl gx' a i = gl gx a i) (hm : ∀ a i, KM' b wb a i → gi gm' a i = gi gm a i) (hm' : ∀ a i, BKm b a i → gl gm' a i = gl gm a i) : MB gx' gm' S b wb D P N z G := by
  obtain ⟨g1, g23, gwb, g37, g14, gDS, gDK, gP, gN, gG, g49⟩ := h
  exact ⟨g1.mv (fun a i ha => hx _ _ (by omega) (by omega)) (fun a i hq => ⟨hm _ _ (Or.inl hq), hm' _ _ hq⟩), by rw [hm _ _ (Or.inr (Or.inl ⟨rfl, by omega⟩))]; exact g23, gwb, by rw [hm _ _ (Or.inr (Or.inl ⟨rfl, by omega⟩))]; exact g37, by rw [hm _ _ (Or.inr (Or.inr (Or.inl ⟨rfl, rfl⟩)))]; exact g14, gDS, fun k hk => (gDK k hk).ag6 (by have := gDS.1; omega) gP gN hm, gP, gN, gG, by rw [hm _ _ (Or.inr (Or.inl ⟨rfl, by omega⟩))]; exact g49⟩
end MBS
/-! the order of rows -/
def frx (S : St) (left : Nat) : Nat := ff (fun r => decide (left.testBit r = true ∧ adn (lkc S r 5 &&& left) (2 ^ r) = 0)) (sR S) 0
def olx (S : St) : Nat → Nat → List Nat
  | 0, _ => []
  | n + 1, left => if frx S left = 0 then [] else (frx S left - 1) :: olx S n (adn left (2 ^ (frx S left - 1)))
/-! the parts of the invariant -/
def IA (gx gm : GM) (len : Nat) (tx : Nat → Nat) : Prop := TP gx gm len tx ∧ RsX gx ∧ gi gx 1 9 = gi gm 0 4 ∧ gi gx 1 10 = gi gm 0 5
def IC (gx : GM) (S : St) (D : Dm) (G : Nat) : Prop := DX 28 gx S D low G ∧ gi gx 0 7 = nI G ∧ ∀ r, r < sR S → G.testBit r = false → lkc S r 5 &&& G = 0
def IK (gx gm : GM) (S : St) (K : Nat) : Prop := K < 2 ^ sR S ∧ gi gx 0 8 = nI K ∧ gi gm 0 50 = nI K
def IY (gx gm : GM) : Prop := ∀ j, j < 25 → gi gx 4 j = gi gm 32 j ∧ ∃ k, k ≤ 10000 ∧ gi gx 4 j = cd 0 k
def IL (gx : GM) (S : St) (D : Dm) (G : Nat) : Prop := ¬ gi gx 0 9 = 0 → IsB S D G 0 (gi gx 0 10) ∧ ((gi gx 0 10 = -1 ∧ gi gx 0 11 = 0) ∨ ∃ s, gi gx 0 10 = nI s ∧ s < 2 ^ sR S ∧ gi gx 0 11 = nI (olx S 16 s).length ∧ ∀ j, j < (olx S 16 s).length → gi gx 5 j = nI ((olx S 16 s).getD j 0))
def IS (gx : GM) (S : St) (D : Dm) (G K : Nat) : Prop := ¬ gi gx 0 12 = 0 → IsB S D G (adn K G) (gi gx 0 13)
def IM (gm : GM) (S : St) (D : Dm) (G : Nat) : Prop := ¬ gi gm 0 52 = 0 → CK gm S D G ∧ IsB S D G 0 (gi gm 0 51)
def INW (gx gm : GM) (len : Nat) (tx : Nat → Nat) (b wb : Nat) (S : St) (D : Dm) (P N z G K : Nat) : Prop := IA gx gm len tx ∧ MB gx gm S b wb D P N z G ∧ IC gx S D G ∧ IK gx gm S K ∧ IY gx gm ∧ IL gx S D G ∧ IS gx S D G K ∧ IM gm S D G
def INV (gx gm : GM) : Prop := ∃ len tx b wb S D P N z G K, INW gx gm len tx b wb S D P N z G K
