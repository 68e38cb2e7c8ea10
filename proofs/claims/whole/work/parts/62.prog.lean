/-! programs of the reference -/
abbrev Fn : Type := Nat → Bool
abbrev In : Type := (Nat → Bool) ⊕ Nat
def opc (o : Nat) : Nat := if o = 0 then 126 else if o = 1 then 38 else 124
def AtM (gm : GM) (wb : Nat) (S : St) (T P N k : Nat) (f : Nat → Bool) : Prop := ∃ (pi a L : Nat) (p : Nat → Nat) (c n : Nat), (pi < P ∧ P ≤ 40 ∧ a + L ≤ N ∧ N ≤ 160 ∧ PV S T p L) ∧ ((c = 60 ∨ c = 61 ∨ c = 62) ∧ n ≤ 1000000) ∧ (gi gm 21 (600 * wb + k) = 112 ∧ gi gm 22 (600 * wb + k) = nI (40 * wb + pi) ∧ gi gm 21 (600 * wb + (k + 1)) = nI c ∧ gi gm 22 (600 * wb + (k + 1)) = cd 0 n) ∧ (gi gm 23 (40 * wb + pi) = nI (160 * wb + a) ∧ gi gm 24 (40 * wb + pi) = nI (160 * wb + a + L) ∧ ∀ i, i < L → gi gm 25 (160 * wb + a + i) = nI (p i)) ∧ ∀ r, f r = cmpS c (algn S p (r + 1) L) n
def Pg (gm : GM) (wb : Nat) (S : St) (T P N : Nat) : List In → Nat → Nat → Prop
  | [], k, z => k = z
  | .inl f :: l, k, z => AtM gm wb S T P N k f ∧ Pg gm wb S T P N l (k + 2) z
  | .inr o :: l, k, z => gi gm 21 (600 * wb + k) = nI (opc o) ∧ Pg gm wb S T P N l (k + 1) z
theorem Pg.le {gm : GM} {wb T P N : Nat} {S : St} : ∀ {l : List In} {k z : Nat}, Pg gm wb S T P N l k z → k ≤ z := by
  intro l
  induction l with
  | nil => intro k z h; exact Nat.le_of_eq h
  | cons i l ih =>
    intro k z h
    cases i with
    | inl f => have := ih h.2; omega
    | inr o => have := ih h.2; omega
theorem Pg.app {gm : GM} {wb T P N : Nat} {S : St} {l' : List In} {y z : Nat} (h' : Pg gm wb S T P N l' y z) : ∀ {l : List In} {k : Nat}, Pg gm wb S T P N l k y → Pg gm wb S T P N (l ++ l') k z := by
  intro l
  induction l with
  | nil => intro k h; have : k = y := h; subst this; exact h'
  | cons i l ih =>
    intro k h
    cases i with
    | inl f => exact ⟨h.1, ih h.2⟩
    | inr o => exact ⟨h.1, ih h.2⟩
theorem Pg.ag {gm gm' : GM} {wb T P N P' N' zz : Nat} {S : St} (h1 : ∀ i, i < zz → gi gm' 21 (600 * wb + i) = gi gm 21 (600 * wb + i) ∧ gi gm' 22 (600 * wb + i) = gi gm 22 (600 * wb + i)) (h2 : ∀ i, i < P → gi gm' 23 (40 * wb + i) = gi gm 23 (40 * wb + i) ∧ gi gm' 24 (40 * wb + i) = gi gm 24 (40 * wb + i)) (h3 : ∀ i, i < N → gi gm' 25 (160 * wb + i) = gi gm 25 (160 * wb + i)) (hP : P ≤ P') (hP' : P' ≤ 40) (hN : N ≤ N') (hN' : N' ≤ 160) : ∀ {l : List In} {k z : Nat}, z ≤ zz → Pg gm wb S T P N l k z → Pg gm' wb S T P' N' l k z := by
  intro l
  induction l with
  | nil => intro k z _ h; exact h
  | cons i l ih =>
    intro k z hz h
    cases i with
    | inl f =>
      have hle := h.2.le
      obtain ⟨⟨pi, a, L, p, c, n, ⟨a1, a2, a3, a4, a5⟩, a6, ⟨a7, a8, a9, a10⟩, ⟨a11, a12, a13⟩, a14⟩, h4⟩ := h
      refine ⟨⟨pi, a, L, p, c, n, ⟨by omega, hP', by omega, hN', a5⟩, a6, ⟨?_, ?_, ?_, ?_⟩, ⟨?_, ?_, fun i hi => ?_⟩, a14⟩, ih hz h4⟩
      · rw [(h1 _ (by omega)).1]; exact a7
      · rw [(h1 _ (by omega)).2]; exact a8
      · rw [(h1 _ (by omega)).1]; exact a9
      · rw [(h1 _ (by omega)).2]; exact a10
      · rw [(h2 _ a1).1]; exact a11
      · rw [(h2 _ a1).2]; exact a12
      · rw [Nat.add_assoc, h3 _ (by omega), ← Nat.add_assoc]; exact a13 i hi
    | inr o =>
      have hle := h.2.le
      exact ⟨by rw [(h1 _ (by omega)).1]; exact h.1, ih hz h.2⟩
def st1 (st : List Fn) : In → Option (List Fn)
  | .inl f => if st.length < 50 then some (f :: st) else none
  | .inr o => match st with
    | [] => none
    | b :: st' => if o = 0 then some ((fun r => !b r) :: st') else match st' with
      | [] => none
      | a :: st'' => if o = 1 then some ((fun r => a r && b r) :: st'') else some ((fun r => a r || b r) :: st'')
def rn : List In → List Fn → Option (List Fn)
  | [], st => some st
  | i :: l, st => (st1 st i).bind (rn l)
theorem rn_app (l l' : List In) : ∀ st, rn (l ++ l') st = (rn l st).bind (rn l') := by
  induction l with
  | nil => intro st; rfl
  | cons i l ih =>
    intro st
    show (st1 st i).bind (rn (l ++ l')) = ((st1 st i).bind (rn l)).bind (rn l')
    cases st1 st i with
    | none => rfl
    | some s => exact ih s
/-- the values laid down for row r -/
def VS (g : GM) (r : Nat) : List Fn → Prop
  | [] => True
  | f :: st => gi g 27 st.length = b2i (f r) ∧ VS g r st
theorem VS.si {g : GM} {r k : Nat} {v : Int32} : ∀ {st : List Fn}, VS g r st → st.length ≤ k → VS (si g 27 k v) r st := by
  intro st
  induction st with
  | nil => intro _ _; trivial
  | cons f st ih =>
    intro h hk
    have hk' : st.length + 1 ≤ k := hk
    exact ⟨by rw [gi_si, if_neg (by omega)]; exact h.1, ih h.2 (by omega)⟩
theorem b2i_z (b : Bool) : isZ (b2i b) = true := by cases b <;> rfl
theorem b2i_0 (b : Bool) : b2i b = 0 ↔ b = false := by cases b <;> decide
section HOLDS
variable {b wb : Nat} {gx gm : GM} {S : St}
theorem SS.off {g : GM} (h : SS 6 b gx gm S) (ho : Off 27 gm g) : SS 6 b gx g S := h.mv (fun _ _ _ => ⟨rfl, rfl⟩) (fun a i hq => ⟨ho.1 a i (by unfold BKm at hq; omega), ho.2 a i⟩)
theorem opc_lt (o : Nat) : opc o < 2 ^ 31 ∧ opc o ≤ 126 := by unfold opc; split; omega; split <;> omega
theorem m_run (h : SS 6 b gx gm S) (h23 : gi gm 0 23 = nI b) (hwb : wb < 2) (h37 : gi gm 0 37 = nI wb) {T P N zz w r : Nat} (hT : T < sT S) (hw : w < 10) (h20 : gi gm 20 (10 * wb + w) = nI zz) (hzz : zz ≤ 600) (hr : r < sR S) (hB : sB S r = T) :
    ∀ (l : List In) (k z : Nat) (st st' : List Fn) (x4 : Int32) (g : GM), z ≤ zz → Pg gm wb S T P N l k z → rn l st = some st' → st.length ≤ 50 → VS g r st → Off 27 gm g → ∃ g' x4', (∀ n, fixN (F_X7_holdsFor_22B (nI (10 * wb + w)) (nI r)) (n + (z - k)) (nI st.length, x4, nI (600 * wb + k), g) = fixN (F_X7_holdsFor_22B (nI (10 * wb + w)) (nI r)) n (nI st'.length, x4', nI (600 * wb + z), g')) ∧ VS g' r st' ∧ Off 27 gm g' ∧ st'.length ≤ 50 := by
  intro l
  induction l with
  | nil =>
    intro k z st st' x4 g hz hP hrn h50 hV hO
    have e : k = z := hP
    subst e
    cases hrn
    exact ⟨g, x4, fun n => by rw [Nat.sub_self]; rfl, hV, hO, h50⟩
  | cons i l ih =>
    intro k z st st' x4 g hz hP hrn h50 hV hO
    have hg : ∀ a i, ¬ a = 27 → gi g a i = gi gm a i := hO.1
    have e37 : gi g 0 37 = nI wb := by rw [hg _ _ (by decide)]; exact h37
    have e20 : gi g 20 (10 * wb + w) = nI zz := by rw [hg _ _ (by decide)]; exact h20
    have hs := h.off hO
    have e23 : gi g 0 23 = nI b := by rw [hg _ _ (by decide)]; exact h23
    -- the head of a round
    have head : ∀ kb x3 x4 g' k', gi g' 0 37 = nI wb → gi g' 20 (10 * wb + w) = nI zz → k' < zz → F_X7_holdsFor_22B (nI (10 * wb + w)) (nI r) kb (x3, x4, nI (600 * wb + k'), g') = (if (gi g' 21 (600 * wb + k')) = 112 then (F_X7_along (gi g' 22 (600 * wb + k')) (nI r) g').bind fun r_9 => F_X7_holdsFor_220 kb (nI (10 * wb + w)) (nI r) x3 r_9 (nI (600 * wb + k')) g' else if (gi g' 21 (600 * wb + k')) = 126 then ckB (inB (x3 - 1) 50) (if (gi g' 27 (x3 - 1).toNatClampNeg) = 0 then F_X7_holdsFor_105 kb (nI (10 * wb + w)) (nI r) x3 x4 (nI (600 * wb + k')) 1 (x3 - 1) g' else F_X7_holdsFor_105 kb (nI (10 * wb + w)) (nI r) x3 x4 (nI (600 * wb + k')) 0 (x3 - 1) g') else if (gi g' 21 (600 * wb + k')) = 38 then F_X7_holdsFor_123 kb (nI (10 * wb + w)) (nI r) x3 x4 (nI (600 * wb + k')) (gi g' 21 (600 * wb + k')) g' else if (gi g' 21 (600 * wb + k')) = 124 then F_X7_holdsFor_123 kb (nI (10 * wb + w)) (nI r) x3 x4 (nI (600 * wb + k')) (gi g' 21 (600 * wb + k')) g' else (F_X7_related (gi g' 21 (600 * wb + k')) x4 (gi g' 22 (600 * wb + k'))).bind fun r_6 => ckB (inB x3 50) (ckB (isZ r_6) (F_X7_holdsFor_220 kb (nI (10 * wb + w)) (nI r) (x3 + 1) x4 (nI (600 * wb + k')) (si g' 27 x3.toNatClampNeg r_6)))) := by
      intro kb x3 x4 g' k' q1 q2 q3
      unfold F_X7_holdsFor_22B
      dsimp only
      rw [ck_true (inB_nI (by omega) (by decide)), nI_clamp (show 10 * wb + w < 2 ^ 31 by omega), q1, q2, l600, nI_add, if_neg (nI_ge (by omega) (by omega)), ck_true (inB_nI (by omega) (by decide)), nI_clamp (show 600 * wb + k' < 2 ^ 31 by omega), lt_def]
      simp only [ck_true (inB_nI (show 600 * wb + k' < 1200 by omega) (by decide)), lt_def]
    cases i with
    | inl f =>
      have hle := hP.2.le
      obtain ⟨⟨pi, a, L, p, c, n, ⟨a1, a2, a3, a4, a5⟩, ⟨a6, a6'⟩, ⟨a7, a8, a9, a10⟩, ⟨a11, a12, a13⟩, a14⟩, h4⟩ := hP
      have hlt : st.length < 50 := by
        apply Classical.byContradiction
        intro q
        rw [rn, st1, if_neg q] at hrn
        cases hrn
      rw [rn, st1, if_pos hlt, Option.bind_some] at hrn
      have hal := m_along hs e23 hT a5 hwb (show pi < 40 by omega) (show a + L ≤ 160 by omega) (by rw [hg _ _ (by decide)]; exact a11) (by rw [hg _ _ (by decide)]; exact a12) (fun i hi => by rw [hg _ _ (by decide)]; exact a13 i hi) hr hB
      have hv := h.algL hr hB a5
      have s1 : ∀ kb, F_X7_holdsFor_22B (nI (10 * wb + w)) (nI r) kb (nI st.length, x4, nI (600 * wb + k), g) = kb (nI st.length, cd 0 (algn S p (r + 1) L), nI (600 * wb + (k + 1)), g) := by
        intro kb
        rw [head kb _ _ g k e37 e20 (by omega), hg _ _ (by decide), a7, if_pos rfl, hg _ _ (by decide), a8, hal, Option.bind_some]
        unfold F_X7_holdsFor_220
        rw [lt_def, nI_1]
        rfl
      have s2 : ∀ kb, F_X7_holdsFor_22B (nI (10 * wb + w)) (nI r) kb (nI st.length, cd 0 (algn S p (r + 1) L), nI (600 * wb + (k + 1)), g) = kb (nI (st.length + 1), cd 0 (algn S p (r + 1) L), nI (600 * wb + (k + 2)), si g 27 st.length (b2i (f r))) := by
        intro kb
        have n1 : ¬ nI c = 112 := by rcases a6 with rfl | rfl | rfl <;> decide
        have n2 : ¬ nI c = 126 := by rcases a6 with rfl | rfl | rfl <;> decide
        have n3 : ¬ nI c = 38 := by rcases a6 with rfl | rfl | rfl <;> decide
        have n4 : ¬ nI c = 124 := by rcases a6 with rfl | rfl | rfl <;> decide
        rw [head kb _ _ g (k + 1) e37 e20 (by omega), hg _ _ (by decide), a9, if_neg n1, if_neg n2, if_neg n3, if_neg n4, hg _ _ (by decide), a10, m_related a6 hv a6', Option.bind_some, ck_true (inB_nI hlt (by decide)), ck_true (b2i_z _), nI_clamp (by omega), ← a14 r]
        unfold F_X7_holdsFor_220
        rw [lt_def, nI_1, nI_1]
        rfl
      obtain ⟨g', x4', i1, i2, i3, i4⟩ := ih (k + 2) z (f :: st) st' (cd 0 (algn S p (r + 1) L)) (si g 27 st.length (b2i (f r))) hz h4 hrn (show st.length + 1 ≤ 50 by omega) ⟨gi_same, hV.si (Nat.le_refl _)⟩ (hO.tr Off.si)
      refine ⟨g', x4', fun n => ?_, i2, i3, i4⟩
      have e := i1 n
      rw [show n + (z - k) = (n + (z - (k + 2))) + 2 by omega, ← e]
      show F_X7_holdsFor_22B (nI (10 * wb + w)) (nI r) (fixN (F_X7_holdsFor_22B (nI (10 * wb + w)) (nI r)) (n + (z - (k + 2)) + 1)) (nI st.length, x4, nI (600 * wb + k), g) = _
      rw [s1]
      show F_X7_holdsFor_22B (nI (10 * wb + w)) (nI r) (fixN (F_X7_holdsFor_22B (nI (10 * wb + w)) (nI r)) (n + (z - (k + 2)))) (nI st.length, cd 0 (algn S p (r + 1) L), nI (600 * wb + (k + 1)), g) = _
      rw [s2]
      rfl
    | inr o =>
      have hle := hP.2.le
      obtain ⟨h1, h4⟩ := hP
      have f21 : gi g 21 (600 * wb + k) = nI (opc o) := by rw [hg _ _ (by decide)]; exact h1
      have fin : ∀ (st2 : List Fn) (g2 : GM), rn l st2 = some st' → (∀ kb, F_X7_holdsFor_22B (nI (10 * wb + w)) (nI r) kb (nI st.length, x4, nI (600 * wb + k), g) = kb (nI st2.length, x4, nI (600 * wb + (k + 1)), g2)) → st2.length ≤ 50 → VS g2 r st2 → Off 27 gm g2 → ∃ g' x4', (∀ n, fixN (F_X7_holdsFor_22B (nI (10 * wb + w)) (nI r)) (n + (z - k)) (nI st.length, x4, nI (600 * wb + k), g) = fixN (F_X7_holdsFor_22B (nI (10 * wb + w)) (nI r)) n (nI st'.length, x4', nI (600 * wb + z), g')) ∧ VS g' r st' ∧ Off 27 gm g' ∧ st'.length ≤ 50 := by
        intro st2 g2 q1 q2 q3 q4 q5
        obtain ⟨g', x4', i1, i2, i3, i4⟩ := ih (k + 1) z st2 st' x4 g2 hz h4 q1 q3 q4 q5
        refine ⟨g', x4', fun n => ?_, i2, i3, i4⟩
        have e := i1 n
        rw [show n + (z - k) = (n + (z - (k + 1))) + 1 by omega, ← e]
        show F_X7_holdsFor_22B (nI (10 * wb + w)) (nI r) (fixN (F_X7_holdsFor_22B (nI (10 * wb + w)) (nI r)) (n + (z - (k + 1)))) (nI st.length, x4, nI (600 * wb + k), g) = _
        rw [q2]
      cases st with
      | nil => cases hrn
      | cons f st =>
        have hf : gi g 27 st.length = b2i (f r) := hV.1
        have hl : st.length + 1 ≤ 50 := h50
        by_cases o0 : o = 0
        · subst o0
          have hrn' : rn l ((fun r => !f r) :: st) = some st' := hrn
          refine fin _ (si g 27 st.length (b2i (!f r))) hrn' (fun kb => ?_) hl ⟨gi_same, VS.si hV.2 (Nat.le_refl _)⟩ (hO.tr Off.si)
          have e1 : nI (st.length + 1) - 1 = nI st.length := by rw [show (1 : Int32) = nI 1 from rfl, nI_sub (by omega)]; rfl
          show F_X7_holdsFor_22B (nI (10 * wb + w)) (nI r) kb (nI (st.length + 1), x4, nI (600 * wb + k), g) = kb (nI (st.length + 1), x4, nI (600 * wb + (k + 1)), si g 27 st.length (b2i (!f r)))
          rw [head kb _ _ g k e37 e20 (by omega), f21, if_neg (by decide), if_pos (by decide), e1, ck_true (inB_nI (by omega) (by decide)), nI_clamp (by omega), hf]
          unfold F_X7_holdsFor_105 F_X7_holdsFor_220
          rw [nI_clamp (by omega), ck_true (inB_nI (by omega) (by decide)), ck_true (by decide), lt_def, lt_def, ck_true (inB_nI (by omega) (by decide)), ck_true (by decide), lt_def, lt_def, nI_1]
          cases f r
          · rw [if_pos (by decide)]; rfl
          · rw [if_neg (by decide)]; rfl
        · cases st with
          | nil =>
            have : rn (Sum.inr o :: l) [f] = none := by
              rw [rn, st1, if_neg o0]
              rfl
            rw [this] at hrn
            cases hrn
          | cons a st =>
            have ha : gi g 27 st.length = b2i (a r) := hV.2.1
            have hf' : gi g 27 (st.length + 1) = b2i (f r) := hf
            have hl' : st.length + 1 + 1 ≤ 50 := h50
            have e1 : nI (st.length + 1 + 1) + (-1) = nI (st.length + 1) := pk_m1 _
            have e2 : nI (st.length + 1) - 1 = nI st.length := by rw [show (1 : Int32) = nI 1 from rfl, nI_sub (by omega)]; rfl
            by_cases o1 : o = 1
            · subst o1
              have hrn' : rn l ((fun r => a r && f r) :: st) = some st' := hrn
              refine fin _ (si g 27 st.length (b2i (a r && f r))) hrn' (fun kb => ?_) (show st.length + 1 ≤ 50 by omega) ⟨gi_same, VS.si hV.2.2 (Nat.le_refl _)⟩ (hO.tr Off.si)
              show F_X7_holdsFor_22B (nI (10 * wb + w)) (nI r) kb (nI (st.length + 1 + 1), x4, nI (600 * wb + k), g) = kb (nI (st.length + 1), x4, nI (600 * wb + (k + 1)), si g 27 st.length (b2i (a r && f r)))
              rw [head kb _ _ g k e37 e20 (by omega), f21, if_neg (by decide), if_neg (by decide), if_pos (by decide)]
              unfold F_X7_holdsFor_123 F_X7_holdsFor_164 F_X7_holdsFor_193 F_X7_holdsFor_220
              rw [e1, lt_def, if_pos (by decide), e2]
              simp only [ck_true (inB_nI (show st.length < 50 by omega) (by decide)), ck_true (inB_nI (show st.length + 1 < 50 by omega) (by decide)), nI_clamp (show st.length < 2 ^ 31 by omega), nI_clamp (show st.length + 1 < 2 ^ 31 by omega), lt_def, nI_1, ha, hf', ck_true (show isZ 0 = true by decide), ck_true (show isZ 1 = true by decide), b2i_0]
              cases a r <;> cases f r <;> rfl
            · have hrn' : rn l ((fun r => a r || f r) :: st) = some st' := by
                rw [rn, st1, if_neg o0] at hrn
                rw [if_neg o1] at hrn
                exact hrn
              have eo : nI (opc o) = 124 := by unfold opc; rw [if_neg o0, if_neg o1]; rfl
              refine fin _ (si g 27 st.length (b2i (a r || f r))) hrn' (fun kb => ?_) (show st.length + 1 ≤ 50 by omega) ⟨gi_same, VS.si hV.2.2 (Nat.le_refl _)⟩ (hO.tr Off.si)
              show F_X7_holdsFor_22B (nI (10 * wb + w)) (nI r) kb (nI (st.length + 1 + 1), x4, nI (600 * wb + k), g) = kb (nI (st.length + 1), x4, nI (600 * wb + (k + 1)), si g 27 st.length (b2i (a r || f r)))
              rw [head kb _ _ g k e37 e20 (by omega), f21, eo, if_neg (by decide), if_neg (by decide), if_neg (by decide), if_pos rfl]
              unfold F_X7_holdsFor_123 F_X7_holdsFor_188 F_X7_holdsFor_193 F_X7_holdsFor_220
              rw [e1, lt_def, if_neg (by decide), e2]
              simp only [ck_true (inB_nI (show st.length < 50 by omega) (by decide)), ck_true (inB_nI (show st.length + 1 < 50 by omega) (by decide)), nI_clamp (show st.length < 2 ^ 31 by omega), nI_clamp (show st.length + 1 < 2 ^ 31 by omega), lt_def, nI_1, ha, hf', ck_true (show isZ 0 = true by decide), ck_true (show isZ 1 = true by decide), b2i_0]
              cases a r <;> cases f r <;> rfl
/-- what a wish asks of a row -/
def WP (gm : GM) (wb : Nat) (S : St) (T P N a z ft : Nat) : Prop := z ≤ 600 ∧ ∃ l, Pg gm wb S T P N l a z ∧ ((rn l [] = some [] ∧ ∀ r, r < sR S → sB S r = T → ft.testBit r = true) ∨ ∃ f, rn l [] = some [f] ∧ ∀ r, r < sR S → sB S r = T → ft.testBit r = f r)
theorem m_holdsFor (h : SS 6 b gx gm S) (h23 : gi gm 0 23 = nI b) (hwb : wb < 2) (h37 : gi gm 0 37 = nI wb) {T P N a z ft w r : Nat} (hT : T < sT S) (hw : w < 10) (h19 : gi gm 19 (10 * wb + w) = nI a) (h20 : gi gm 20 (10 * wb + w) = nI z) (hP : WP gm wb S T P N a z ft) (hr : r < sR S) (hB : sB S r = T) :
    ∃ g', F_X7_holdsFor (nI (10 * wb + w)) (nI r) gm = some (b2i (ft.testBit r), g') ∧ Off 27 gm g' := by
  obtain ⟨hz, l, hp, hl⟩ := hP
  have hle := hp.le
  have e1 : F_X7_holdsFor (nI (10 * wb + w)) (nI r) gm = fixN (F_X7_holdsFor_22B (nI (10 * wb + w)) (nI r)) FU (nI 0, -1, nI (600 * wb + a), gm) := by
    unfold F_X7_holdsFor
    rw [ck_true (inB_nI (by omega) (by decide)), nI_clamp (by omega), h37, h19, l600, nI_add, lt_def]
    rfl
  have hend : ∀ (g' : GM) (x3 x4 : Int32) (n : Nat), Off 27 gm g' → fixN (F_X7_holdsFor_22B (nI (10 * wb + w)) (nI r)) (n + 1) (x3, x4, nI (600 * wb + z), g') = if x3 = 0 then some (1, g') else if gi g' 27 0 = 0 then some (0, g') else some (1, g') := by
    intro g' x3 x4 n hO
    have st : ∀ kb, F_X7_holdsFor_22B (nI (10 * wb + w)) (nI r) kb (x3, x4, nI (600 * wb + z), g') = if x3 = 0 then some (1, g') else if gi g' 27 0 = 0 then some (0, g') else some (1, g') := by
      intro kb
      unfold F_X7_holdsFor_22B F_X7_holdsFor_239
      dsimp only
      rw [ck_true (inB_nI (by omega) (by decide)), nI_clamp (by omega), hO.1 _ _ (by decide), hO.1 _ _ (by decide), h37, h20, l600, nI_add, if_pos (nI_le (Nat.le_refl _) (by omega)), ck_true (by decide)]
      rfl
    exact st _
  have hFU : FU = (69999 - (z - a)) + 1 + (z - a) := by show 70000 = _; omega
  rcases hl with ⟨h1, h2⟩ | ⟨f, h1, h2⟩
  · obtain ⟨g', x4', i1, i2, i3, _⟩ := m_run h h23 hwb h37 hT hw h20 hz hr hB l a z [] [] (-1) gm (Nat.le_refl _) hp h1 (Nat.zero_le _) trivial (Off.rf 27 gm)
    refine ⟨g', ?_, i3⟩
    rw [e1, hFU]
    have := i1 (69999 - (z - a) + 1)
    rw [show ([] : List Fn).length = 0 from rfl] at this
    rw [this, hend g' _ _ _ i3, if_pos (show nI 0 = 0 from rfl), h2 r hr hB]
    rfl
  · obtain ⟨g', x4', i1, i2, i3, _⟩ := m_run h h23 hwb h37 hT hw h20 hz hr hB l a z [] [f] (-1) gm (Nat.le_refl _) hp h1 (Nat.zero_le _) trivial (Off.rf 27 gm)
    refine ⟨g', ?_, i3⟩
    rw [e1, hFU]
    have := i1 (69999 - (z - a) + 1)
    rw [show ([] : List Fn).length = 0 from rfl, show [f].length = 1 from rfl] at this
    have i2' : gi g' 27 0 = b2i (f r) := i2.1
    rw [this, hend g' _ _ _ i3, if_neg (by decide), i2', h2 r hr hB]
    cases f r <;> rfl
end HOLDS
