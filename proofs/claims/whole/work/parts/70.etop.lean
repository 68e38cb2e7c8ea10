/-! e, from its first token to its end -/
section ETOP
variable {gx gm : GM} {len : Nat} {tx : Nat → Nat} {t : Tk} {s e b T wb w P N z : Nat} {S : St}
theorem s_e (hT : T < sT S) (hwb : wb < 2) (hw : w < 10) (hlen : len ≤ 600) (hS : Sy gx gm len tx true t s e) (h : SS 6 b gx gm S) (h23 : gi gm 0 23 = nI b) (h15 : gi gm 15 (10 * wb + w) = nI (5 * b + T)) (h426 : gi gx 42 6 = nI T) (h38 : gi gm 0 38 = nI wb) (h425 : gi gx 42 5 = nI P) (h40 : gi gm 0 40 = nI P) (h41 : gi gm 0 41 = nI N) (hP : P ≤ 40) (hN : N ≤ 4 * P) (h39 : gi gm 0 39 = nI z) (hz : z ≤ s) :
    ∃ gx' gm' r, F_X5_readEither 0 gx = some (r, gx') ∧ F_X7_e (nI (10 * wb + w)) gm = some gm' ∧ Ow PMx QT gx gx' ∧ Ow (PEm wb P N z) QTm gm gm' ∧
    (Fa gx' gm' ∨ ∃ t' s' e' P' N' z' mr f l, Sy gx' gm' len tx true t' s' e' ∧ s < s' ∧ (gi gx' 42 5 = nI P' ∧ gi gm' 0 40 = nI P' ∧ gi gm' 0 41 = nI N' ∧ P' ≤ 40 ∧ N' ≤ 4 * P' ∧ P ≤ P' ∧ N ≤ N') ∧ (gi gm' 0 39 = nI z' ∧ z ≤ z' ∧ z' ≤ s') ∧ Pg gm' wb S T P' N' l z z' ∧ rn l [] = some [f] ∧ r = nI mr ∧ BR S T mr f) := by
  have hln := hS.ln
  have hE0 : EX gx (si (si gm 0 43 0) 0 44 0) S b T wb w z P N P N z 0 0 (fun _ => 0) [] := by
    refine ⟨⟨h.mm (fun a i p q => by rw [gi_si, if_neg (by omega), gi_si, if_neg (by omega)]) (fun _ _ => rfl), ?_, ?_, h426, ?_⟩, ⟨h425, ?_, ?_, hP, hN, Nat.le_refl _, Nat.le_refl _⟩, ⟨?_, Nat.le_refl _, [], rfl, rfl⟩, ?_, gi_same, fun j hj => by omega⟩
    · rw [gi_si, if_neg (by decide), gi_si, if_neg (by decide)]; exact h23
    · rw [gi_si, if_neg (by omega), gi_si, if_neg (by omega)]; exact h15
    · rw [gi_si, if_neg (by decide), gi_si, if_neg (by decide)]; exact h38
    · rw [gi_si, if_neg (by decide), gi_si, if_neg (by decide)]; exact h40
    · rw [gi_si, if_neg (by decide), gi_si, if_neg (by decide)]; exact h41
    · rw [gi_si, if_neg (by decide), gi_si, if_neg (by decide)]; exact h39
    · rw [gi_si, if_neg (by decide), gi_same]; rfl
  have tg0 : TgM gm (si (si gm 0 43 0) 0 44 0) := ((TgM.rf gm).si (Or.inr (Or.inr (by decide))) (by decide)).si (Or.inr (Or.inr (by decide))) (by decide)
  have ow0 : Ow (PEm wb P N z) QTm gm (si (si gm 0 43 0) 0 44 0) := ((Ow.rf gm).si (Or.inl ⟨rfl, Or.inr (by omega)⟩)).si (Or.inl ⟨rfl, Or.inr (by omega)⟩)
  obtain ⟨gmP, v1, v2, v3, v4⟩ := m_pile hE0 (by decide) (o := 5) (x := 5) rfl
  have eM : F_X7_e (nI (10 * wb + w)) gm = fixN (F_X7_e_17B (nI (10 * wb + w))) FU (1, gmP) := by
    unfold F_X7_e
    rw [lt_def, lt_def, v1, Option.bind_some]
  obtain ⟨gx3, gm3, r, c, q1, q2, q3, q4⟩ := s_either hwb hlen (s_one hT hwb hw hlen 16) (len + 1) 0 0 gx gmP t s e P N z 0 (upn (fun _ => 0) 0 5) [] none none 0 4294967295 (by decide) (by decide) (by omega) (Nat.zero_le _) ((hS.tg (TgX.rf gx) tg0).tg (TgX.rf gx) v3) v2 (fun h => absurd h (by decide)) (fun h => absurd h (by decide)) (by rw [upn_s]; decide) (by rw [upn_s]; decide) (Nat.le_refl _) (Nat.le_refl _) (show z + (0 + 1 + 0 + 0) ≤ s + 1 by omega) (fun r _ _ => Nat.zero_testBit r) (fun r hr _ => all_m1 r (by have := h.r16; omega)) FU (by show len + 1 + 1 < 70000; omega)
  have eX : F_X5_readEither 0 gx = some (r, gx3) := by
    unfold F_X5_readEither F_X5_readEitherR
    rw [nI_m1]
    exact q1
  rcases q4 with ⟨x1, x2, x3⟩ | ⟨t', s', e', P', N', z', f, mr, x1, x2, x3, x4, x5, x6, x7, x8⟩
  · refine ⟨gx3, gm3, r, eX, ?_, q2, (ow0.tr v4).tr q3, Or.inl x1⟩
    rw [eM, show FU = (69998 - c) + c + 2 by show 70000 = _; omega]
    exact x3 _
  · have hl2 := x2.ln
    have g43 : gi gm3 0 43 = nI 1 := x5.2.2.2.1
    have g26 : gi gm3 26 0 = nI 5 := by rw [x5.2.2.2.2.2 0 (by decide), upn_s]
    have eB : F_X7_behind_139 0 gm3 = some (0, si gm3 0 43 0) := by
      unfold F_X7_behind_139
      have e1 : nI 1 - 1 = 0 := by decide
      have h26' : gi (si gm3 0 43 0) 26 (0 : Int32).toNatClampNeg = nI 5 := by rw [gi_si, if_neg (fun q => by have := q.1; omega)]; exact g26
      rw [if_pos (by decide), g43, e1, lt_def, gi_same, ck_true (by decide), h26', if_neg (by decide)]
    have X1 := x1 0 _ eB
    have hS4 : Sy gx3 (si gm3 0 43 0) len tx true t' s' e' := x2.tg (TgX.rf gx3) ((TgM.rf gm3).si (Or.inr (Or.inr (by decide))) (by decide))
    obtain ⟨⟨f1, f2, f3, f4, f5⟩, ⟨f6, f7, f8, f9, f10, f11, f12⟩, ⟨f13, f14, l, f15, f16⟩, f17, f18, f19⟩ := x5
    refine ⟨gx3, si gm3 0 43 0, r, eX, ?_, q2, ((ow0.tr v4).tr q3).si (Or.inl ⟨rfl, Or.inr (by omega)⟩), Or.inr ⟨t', s', e', P', N', z', mr, f, l, hS4, x4, ⟨f6, ?_, ?_, f9, f10, f11, f12⟩, ⟨?_, f14, by omega⟩, ?_, f16, x7, x8⟩⟩
    · rw [eM, show FU = (69998 - c + 1) + c + 1 by show 70000 = _; omega, X1]
      have st : ∀ kb, F_X7_e_17B (nI (10 * wb + w)) kb (0, si gm3 0 43 0) = some (si gm3 0 43 0) := by
        intro kb
        unfold F_X7_e_17B
        dsimp only
        rw [m_good hS4.f0m, Option.bind_some, if_neg (by decide), gi_same, if_pos (by decide)]
      exact st _
    · rw [gi_si, if_neg (by decide)]; exact f7
    · rw [gi_si, if_neg (by decide)]; exact f8
    · rw [gi_si, if_neg (by decide)]; exact f13
    · exact Pg.ag (zz := z') (fun i _ => ⟨by rw [gi_si, if_neg (by omega)], by rw [gi_si, if_neg (by omega)]⟩) (fun i _ => ⟨by rw [gi_si, if_neg (by omega)], by rw [gi_si, if_neg (by omega)]⟩) (fun i _ => by rw [gi_si, if_neg (by omega)]) (Nat.le_refl _) f9 (Nat.le_refl _) (by omega) (Nat.le_refl _) f15
end ETOP
/-! demands -/
abbrev Dm : Type := Nat × (Nat → Bool) × (Nat → Nat) × (Nat → Nat) × (Nat → Nat) × (Nat → Nat) × (Nat → Nat)
def dW (D : Dm) : Nat := D.1
def dL (D : Dm) : Nat → Bool := D.2.1
def dT (D : Dm) : Nat → Nat := D.2.2.1
def dN (D : Dm) : Nat → Nat := D.2.2.2.1
def dS (D : Dm) : Nat → Nat := D.2.2.2.2.1
def dC (D : Dm) : Nat → Nat := D.2.2.2.2.2.1
def dF (D : Dm) : Nat → Nat := D.2.2.2.2.2.2
def D00 : Dm := (0, fun _ => false, fun _ => 0, fun _ => 0, fun _ => 0, fun _ => 0, fun _ => 0)
def upb (p : Nat → Bool) (i : Nat) (c : Bool) (j : Nat) : Bool := if j = i then c else p j
theorem upb_s {p : Nat → Bool} {i : Nat} {c : Bool} : upb p i c i = c := if_pos rfl
theorem upb_n {p : Nat → Bool} {i : Nat} {c : Bool} {j : Nat} (h : ¬ j = i) : upb p i c j = p j := if_neg h
def dAdd (D : Dm) (l : Bool) (T n u c f : Nat) : Dm := (dW D + 1, upb (dL D) (dW D) l, upn (dT D) (dW D) T, upn (dN D) (dW D) n, upn (dS D) (dW D) u, upn (dC D) (dW D) c, upn (dF D) (dW D) f)
/-- the rows of table u that link by column c to row r -/
def lkr (S : St) (u c r : Nat) : Nat := bs (fun q => decide (sB S q = u) && decide (jc S q c = r + 1)) (sR S)
def BnK (S : St) (q : Nat → Nat → Nat) (G : Nat) (l : Bool) (T n u c f : Nat) (o n' h : Nat) : Prop := (l = false ∧ o = 0 ∧ n' = n ∧ h = adn f G) ∨ (l = true ∧ ∃ r, r < sR S ∧ sB S r = T ∧ o = 2 ^ r ∧ h = adn (lkr S u c r) G ∧ n' = q n h)
def Bnd (S : St) (q : Nat → Nat → Nat) (G : Nat) (D : Dm) (k o n' h : Nat) : Prop := BnK S q G (dL D k) (dT D k) (dN D k) (dS D k) (dC D k) (dF D k) o n' h
def BDs (S : St) (D : Dm) (q : Nat → Nat → Nat) (G m : Nat) (ow nd hp : Nat → Nat) : Prop := (∀ j, j < m → ∃ k, k < dW D ∧ Bnd S q G D k (ow j) (nd j) (hp j)) ∧ ∀ k, k < dW D → ∀ o n' h, Bnd S q G D k o n' h → ∃ j, j < m ∧ ow j = o ∧ nd j = n' ∧ hp j = h
/-- the class's demands at B -/
def DX (B : Nat) (gx : GM) (S : St) (D : Dm) (q : Nat → Nat → Nat) (G : Nat) : Prop := gi gx B 0 = nI (dW D) ∧ (∀ k, k < dW D → gi gx (B + 1) k = b2i (dL D k) ∧ gi gx (B + 2) k = nI (dT D k) ∧ gi gx (B + 3) k = nI (dF D k)) ∧ ∃ m ow nd hp, gi gx B 4 = nI m ∧ m ≤ 16 * dW D ∧ (∀ j, j < m → gi gx (B + 4) j = nI (ow j) ∧ gi gx (B + 5) j = nI (nd j) ∧ gi gx (B + 6) j = nI (hp j)) ∧ BDs S D q G m ow nd hp
/-- the reference's k-th demand in bank wb -/
def DK (gm : GM) (S : St) (b wb P N z k : Nat) (l : Bool) (T n u c f : Nat) : Prop := gi gm 15 (10 * wb + k) = nI (5 * b + T) ∧ gi gm 16 (10 * wb + k) = nI n ∧ (l = true → gi gm 17 (10 * wb + k) = nI (5 * b + u) ∧ gi gm 18 (10 * wb + k) = nI c) ∧ (l = false → gi gm 17 (10 * wb + k) = -1 ∧ ∃ a z', gi gm 19 (10 * wb + k) = nI a ∧ gi gm 20 (10 * wb + k) = nI z' ∧ z' ≤ z ∧ WP gm wb S T P N a z' f)
/-- what is so of every demand -/
def DS (S : St) (l : Bool) (T n u c f : Nat) : Prop := T < sT S ∧ 1 ≤ n ∧ n ≤ 16 ∧ f < 2 ^ sR S ∧ (∀ r, f.testBit r = true → sB S r = T) ∧ (l = true → u < sT S ∧ c < sC S u ∧ sL S u c = T + 1 ∧ f = 0)
def DSs (S : St) (D : Dm) : Prop := dW D ≤ 10 ∧ ∀ k, k < dW D → DS S (dL D k) (dT D k) (dN D k) (dS D k) (dC D k) (dF D k)
def DKs (gm : GM) (S : St) (b wb P N z : Nat) (D : Dm) : Prop := ∀ k, k < dW D → DK gm S b wb P N z k (dL D k) (dT D k) (dN D k) (dS D k) (dC D k) (dF D k)
theorem DK.ag {gm gm' : GM} {S : St} {b wb P N z k T n u c f P' N' z' : Nat} {l : Bool} (h : DK gm S b wb P N z k l T n u c f) (h1 : ∀ a, 15 ≤ a → a ≤ 20 → gi gm' a (10 * wb + k) = gi gm a (10 * wb + k)) (h2 : ∀ i, i < z → gi gm' 21 (600 * wb + i) = gi gm 21 (600 * wb + i) ∧ gi gm' 22 (600 * wb + i) = gi gm 22 (600 * wb + i)) (h3 : ∀ i, i < P → gi gm' 23 (40 * wb + i) = gi gm 23 (40 * wb + i) ∧ gi gm' 24 (40 * wb + i) = gi gm 24 (40 * wb + i)) (h4 : ∀ i, i < N → gi gm' 25 (160 * wb + i) = gi gm 25 (160 * wb + i)) (hP : P ≤ P') (hP' : P' ≤ 40) (hN : N ≤ N') (hN' : N' ≤ 160) (hz : z ≤ z') : DK gm' S b wb P' N' z' k l T n u c f := by
  obtain ⟨a1, a2, a3, a4⟩ := h
  refine ⟨by rw [h1 _ (by decide) (by decide)]; exact a1, by rw [h1 _ (by decide) (by decide)]; exact a2, fun hl => ⟨by rw [h1 _ (by decide) (by decide)]; exact (a3 hl).1, by rw [h1 _ (by decide) (by decide)]; exact (a3 hl).2⟩, fun hl => ?_⟩
  obtain ⟨b1, a, y, b2, b3, b4, b5, lp, b6, b7⟩ := a4 hl
  exact ⟨by rw [h1 _ (by decide) (by decide)]; exact b1, a, y, by rw [h1 _ (by decide) (by decide)]; exact b2, by rw [h1 _ (by decide) (by decide)]; exact b3, by omega, b5, lp, Pg.ag (zz := z) h2 h3 h4 hP hP' hN hN' b4 b6, b7⟩
section DADD
variable {D : Dm} {l : Bool} {T n u c f : Nat}
theorem dAdd_o {k : Nat} (h : k < dW D) : dL (dAdd D l T n u c f) k = dL D k ∧ dT (dAdd D l T n u c f) k = dT D k ∧ dN (dAdd D l T n u c f) k = dN D k ∧ dS (dAdd D l T n u c f) k = dS D k ∧ dC (dAdd D l T n u c f) k = dC D k ∧ dF (dAdd D l T n u c f) k = dF D k := ⟨upb_n (by omega), upn_n (by omega), upn_n (by omega), upn_n (by omega), upn_n (by omega), upn_n (by omega)⟩
theorem dAdd_n : dL (dAdd D l T n u c f) (dW D) = l ∧ dT (dAdd D l T n u c f) (dW D) = T ∧ dN (dAdd D l T n u c f) (dW D) = n ∧ dS (dAdd D l T n u c f) (dW D) = u ∧ dC (dAdd D l T n u c f) (dW D) = c ∧ dF (dAdd D l T n u c f) (dW D) = f := ⟨upb_s, upn_s, upn_s, upn_s, upn_s, upn_s⟩
theorem dAdd_W : dW (dAdd D l T n u c f) = dW D + 1 := rfl
theorem DSs.add {S : St} (h : DSs S D) (hW : dW D < 10) (hn : DS S l T n u c f) : DSs S (dAdd D l T n u c f) := by
  refine ⟨by rw [dAdd_W]; omega, fun k hk => ?_⟩
  rw [dAdd_W] at hk
  by_cases e : k = dW D
  · subst e
    obtain ⟨e1, e2, e3, e4, e5, e6⟩ := dAdd_n (D := D) (l := l) (T := T) (n := n) (u := u) (c := c) (f := f)
    rw [e1, e2, e3, e4, e5, e6]; exact hn
  · obtain ⟨e1, e2, e3, e4, e5, e6⟩ := dAdd_o (D := D) (l := l) (T := T) (n := n) (u := u) (c := c) (f := f) (k := k) (by omega)
    rw [e1, e2, e3, e4, e5, e6]; exact h.2 k (by omega)
theorem DKs.add {S : St} {gm : GM} {b wb P N z : Nat} (h : DKs gm S b wb P N z D) (hn : DK gm S b wb P N z (dW D) l T n u c f) : DKs gm S b wb P N z (dAdd D l T n u c f) := by
  intro k hk
  rw [dAdd_W] at hk
  by_cases e : k = dW D
  · subst e
    obtain ⟨e1, e2, e3, e4, e5, e6⟩ := dAdd_n (D := D) (l := l) (T := T) (n := n) (u := u) (c := c) (f := f)
    rw [e1, e2, e3, e4, e5, e6]; exact hn
  · obtain ⟨e1, e2, e3, e4, e5, e6⟩ := dAdd_o (D := D) (l := l) (T := T) (n := n) (u := u) (c := c) (f := f) (k := k) (by omega)
    rw [e1, e2, e3, e4, e5, e6]; exact h k (by omega)
/-- bonds of one demand more, from m on -/
theorem BDs.add {S : St} {q : Nat → Nat → Nat} {G m m' : Nat} {ow nd hp ow' nd' hp' : Nat → Nat} (h : BDs S D q G m ow nd hp) (hm : m ≤ m') (h0 : ∀ j, j < m → ow' j = ow j ∧ nd' j = nd j ∧ hp' j = hp j) (h1 : ∀ j, m ≤ j → j < m' → BnK S q G l T n u c f (ow' j) (nd' j) (hp' j)) (h2 : ∀ o n' h', BnK S q G l T n u c f o n' h' → ∃ j, m ≤ j ∧ j < m' ∧ ow' j = o ∧ nd' j = n' ∧ hp' j = h') : BDs S (dAdd D l T n u c f) q G m' ow' nd' hp' := by
  obtain ⟨e1, e2, e3, e4, e5, e6⟩ := dAdd_n (D := D) (l := l) (T := T) (n := n) (u := u) (c := c) (f := f)
  refine ⟨fun j hj => ?_, fun k hk o n' h' hb => ?_⟩
  · by_cases ej : j < m
    · obtain ⟨k, k1, k2⟩ := h.1 j ej
      obtain ⟨d1, d2, d3, d4, d5, d6⟩ := dAdd_o (D := D) (l := l) (T := T) (n := n) (u := u) (c := c) (f := f) k1
      refine ⟨k, by rw [dAdd_W]; omega, ?_⟩
      unfold Bnd
      rw [d1, d2, d3, d4, d5, d6, (h0 j ej).1, (h0 j ej).2.1, (h0 j ej).2.2]
      exact k2
    · refine ⟨dW D, by rw [dAdd_W]; omega, ?_⟩
      unfold Bnd
      rw [e1, e2, e3, e4, e5, e6]
      exact h1 j (by omega) hj
  · rw [dAdd_W] at hk
    by_cases e : k = dW D
    · subst e
      unfold Bnd at hb
      rw [e1, e2, e3, e4, e5, e6] at hb
      obtain ⟨j, j1, j2, j3⟩ := h2 o n' h' hb
      exact ⟨j, j2, j3⟩
    · obtain ⟨d1, d2, d3, d4, d5, d6⟩ := dAdd_o (D := D) (l := l) (T := T) (n := n) (u := u) (c := c) (f := f) (k := k) (by omega)
      unfold Bnd at hb
      rw [d1, d2, d3, d4, d5, d6] at hb
      obtain ⟨j, j1, j2, j3, j4⟩ := h.2 k (by omega) o n' h' hb
      exact ⟨j, by omega, by rw [(h0 j j1).1]; exact j2, by rw [(h0 j j1).2.1]; exact j3, by rw [(h0 j j1).2.2]; exact j4⟩
end DADD
