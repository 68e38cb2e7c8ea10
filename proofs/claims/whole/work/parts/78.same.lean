/-! the pieces of both sides are the same -/
def low (n h : Nat) : Nat := min n (pc h)
theorem adn_adn {f G G' : Nat} (h : Sub G G') : adn (adn f G) G' = adn f G' := by
  apply Nat.eq_of_testBit_eq
  intro i
  rw [adn_bit, adn_bit, adn_bit]
  cases e : G.testBit i with
  | false => simp
  | true => rw [h i e]; simp
theorem adn_and {f G s : Nat} (h : s &&& G = 0) : adn f G &&& s = f &&& s := by
  apply Nat.eq_of_testBit_eq
  intro i
  rw [Nat.testBit_and, Nat.testBit_and, adn_bit]
  cases e : s.testBit i with
  | false => simp
  | true => rw [and_zero.mp h i e]; simp
theorem adn_sub (f G : Nat) : Sub (adn f G) f := fun i hi => by rw [adn_bit] at hi; simp at hi; exact hi.1
theorem adn_mono {f G G' : Nat} (h : Sub G G') : Sub (adn f G') (adn f G) := fun i hi => by
  rw [adn_bit] at hi ⊢
  simp at hi
  cases e : G.testBit i with
  | false => simp [hi.1]
  | true => rw [h i e] at hi; cases hi.2
theorem adn_dis (f G : Nat) : adn f G &&& G = 0 := and_zero.mpr (fun i hi => by rw [adn_bit] at hi; simp at hi; exact hi.2)
theorem low_low {n l G G' : Nat} (h : Sub G G') : min (low n (adn l G)) (pc (adn l G')) = low n (adn l G') := by
  have := pc_mono (adn_mono (f := l) h)
  unfold low
  omega
section SAME
variable {gx gm : GM} {S : St} {b G : Nat} {D : Dm} {q : Nat → Nat → Nat}
theorem two_ne (r : Nat) : ¬ 2 ^ r = 0 := by have := Nat.two_pow_pos r; omega
theorem BDs.lose {G0 m : Nat} {ow nd hp : Nat → Nat} (h : BDs S D q G0 m ow nd hp) (hG : Sub G0 G) (hq : ∀ n l, min (q n (adn l G0)) (pc (adn l G)) = low n (adn l G)) : BDs S D low G m ow (fun j => if ow j = 0 then nd j else min (nd j) (pc (adn (hp j) G))) (fun j => adn (hp j) G) := by
  refine ⟨fun j hj => ?_, fun k hk o n' h' hb => ?_⟩
  · obtain ⟨k, k1, k2⟩ := h.1 j hj
    refine ⟨k, k1, ?_⟩
    rcases k2 with ⟨a1, a2, a3, a4⟩ | ⟨a1, r, a2, a3, a4, a5, a6⟩
    · refine Or.inl ⟨a1, a2, ?_, ?_⟩
      · show (if ow j = 0 then nd j else _) = _
        rw [if_pos a2]; exact a3
      · show adn (hp j) G = _
        rw [a4, adn_adn hG]
    · refine Or.inr ⟨a1, r, a2, a3, a4, ?_, ?_⟩
      · show adn (hp j) G = _
        rw [a5, adn_adn hG]
      · show (if ow j = 0 then nd j else min (nd j) (pc (adn (hp j) G))) = low _ (adn (hp j) G)
        rw [if_neg (by rw [a4]; exact two_ne r), a6, a5, adn_adn hG, hq]
  · rcases hb with ⟨a1, a2, a3, a4⟩ | ⟨a1, r, a2, a3, a4, a5, a6⟩
    · obtain ⟨j, j1, j2, j3, j4⟩ := h.2 k hk 0 (dN D k) (adn (dF D k) G0) (Or.inl ⟨a1, rfl, rfl, rfl⟩)
      refine ⟨j, j1, j2.trans a2.symm, ?_, ?_⟩
      · show (if ow j = 0 then nd j else _) = _
        rw [if_pos j2, j3, a3]
      · show adn (hp j) G = _
        rw [j4, adn_adn hG, a4]
    · obtain ⟨j, j1, j2, j3, j4⟩ := h.2 k hk (2 ^ r) (q (dN D k) (adn (lkr S (dS D k) (dC D k) r) G0)) (adn (lkr S (dS D k) (dC D k) r) G0) (Or.inr ⟨a1, r, a2, a3, rfl, rfl, rfl⟩)
      refine ⟨j, j1, j2.trans a4.symm, ?_, ?_⟩
      · show (if ow j = 0 then nd j else min (nd j) (pc (adn (hp j) G))) = _
        rw [if_neg (by rw [j2]; exact two_ne r), j3, j4, adn_adn hG, hq, a6, a5]
      · show adn (hp j) G = _
        rw [j4, adn_adn hG, a5]
theorem BDs.bnd {m : Nat} {ow nd hp : Nat → Nat} {G0 : Nat} (h : BDs S D q G0 m ow nd hp) (hD : DSs S D) (hq : ∀ n h, q n h ≤ n) {j : Nat} (hj : j < m) : ow j < 2 ^ sR S ∧ nd j ≤ 16 ∧ hp j < 2 ^ sR S := by
  obtain ⟨k, k1, k2⟩ := h.1 j hj
  obtain ⟨s1, s2, s3, s4, s5, s6⟩ := hD.2 k k1
  rcases k2 with ⟨a1, a2, a3, a4⟩ | ⟨a1, r, a2, a3, a4, a5, a6⟩
  · exact ⟨by rw [a2]; exact Nat.two_pow_pos _, by rw [a3]; exact s3, by rw [a4]; exact adn_lt s4⟩
  · refine ⟨by rw [a4]; exact Nat.pow_lt_pow_right (by decide) a2, ?_, by rw [a5]; exact adn_lt (lkr_lt _ _ _ _)⟩
    rw [a6]
    have := hq (dN D k) (hp j)
    omega
theorem low_le (n h : Nat) : low n h ≤ n := Nat.min_le_left _ _
/-- a piece of the class is one of the reference, and the other way round -/
theorem pc_same {m : Nat} {ow nd hp : Nat → Nat} {lk : Nat → Nat} (h : BDs S D low G m ow nd hp) (hD : DSs S D) (hn : sR S ≤ 16) (s : Nat) : Pc (sR S) m G lk ow nd hp s ↔ Pcm (sR S) (dW D) G lk (dF D) (dL D) (dN D) (asD S D G) s := by
  constructor
  · rintro ⟨h1, h2, h3, h4⟩
    refine ⟨h1, h2, h3, fun k hk => ⟨fun hl => ?_, fun hl r hr hs => ?_⟩⟩
    · obtain ⟨j, j1, j2, j3, j4⟩ := h.2 k hk 0 (dN D k) (adn (dF D k) G) (Or.inl ⟨hl, rfl, rfl, rfl⟩)
      have := h4 j j1 (Or.inl j2)
      rw [j3, j4, adn_and h2] at this
      exact this
    · by_cases hB : sB S r = dT D k
      · obtain ⟨j, j1, j2, j3, j4⟩ := h.2 k hk (2 ^ r) (low (dN D k) (adn (lkr S (dS D k) (dC D k) r) G)) (adn (lkr S (dS D k) (dC D k) r) G) (Or.inr ⟨hl, r, hr, hB, rfl, rfl, rfl⟩)
        have hbd : bd ow s j := by
          refine Or.inr (fun e => ?_)
          rw [j2] at e
          have := and_zero.mp e r (by rw [two_bit]; simp)
          rw [hs] at this
          cases this
        have h5 := h4 j j1 hbd
        rw [j3, j4] at h5
        unfold asD
        rw [if_pos ⟨hl, hB⟩]
        generalize hA : adn (lkr S (dS D k) (dC D k) r) G = A at *
        have hA16 : A < 2 ^ 16 := by
          rw [← hA]
          exact p16 hn (adn_lt (lkr_lt _ _ _ _))
        unfold low at h5
        by_cases c : dN D k ≤ pc (A &&& s)
        · exact Or.inr c
        · left
          have := Sub.eq_pc (a := A &&& s) (b := A) (fun i hi => by rw [Nat.testBit_and, Bool.and_eq_true] at hi; exact hi.1) hA16 (by omega)
          intro i hi
          rw [← this, Nat.testBit_and, Bool.and_eq_true] at hi
          exact hi.2
      · left
        unfold asD
        rw [if_neg (fun x => hB x.2)]
        intro i hi
        rw [Nat.zero_testBit] at hi
        cases hi
  · rintro ⟨h1, h2, h3, h4⟩
    refine ⟨h1, h2, h3, fun j hj hb => ?_⟩
    obtain ⟨k, k1, k2⟩ := h.1 j hj
    obtain ⟨p1, p2⟩ := h4 k k1
    rcases k2 with ⟨a1, a2, a3, a4⟩ | ⟨a1, r, a2, a3, a4, a5, a6⟩
    · rw [a3, a4, adn_and h2]; exact p1 a1
    · have hs : s.testBit r = true := by
        rcases hb with e | e
        · rw [a4] at e; exact absurd e (two_ne r)
        · apply Classical.byContradiction
          intro c
          refine e (and_zero.mpr (fun i hi => ?_))
          rw [a4, two_bit] at hi
          have : r = i := by simpa using hi
          rw [← this]; simpa using c
      have h5 := p2 a1 r a2 hs
      unfold asD at h5
      rw [if_pos ⟨a1, a3⟩, ← a5] at h5
      rw [a6]
      unfold low
      rcases h5 with c | c
      · have : pc (hp j) ≤ pc (hp j &&& s) := pc_mono (fun i hi => by rw [Nat.testBit_and, hi, c i hi]; rfl)
        omega
      · omega
end SAME
