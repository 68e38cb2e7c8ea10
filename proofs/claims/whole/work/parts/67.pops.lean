/-! the reference's pile -/
def nk : Nat → Bool → Bool
  | 0, b => b
  | k + 1, b => !(nk k b)
theorem nk_not (k : Nat) (b : Bool) : nk k (!b) = !(nk k b) := by
  induction k with
  | zero => rfl
  | succ k ih => show (!(nk k (!b))) = !(!(nk k b)); rw [ih]
def cnt (o : Option Fn) : Nat := match o with
  | none => 0
  | some _ => 1
def opt (o : Option Fn) : List Fn := match o with
  | none => []
  | some f => [f]
def cmA (o : Option Fn) (v : Fn) : Fn := match o with
  | none => v
  | some f => fun r => f r && v r
def cmO (o : Option Fn) (v : Fn) : Fn := match o with
  | none => v
  | some f => fun r => f r || v r
section POPS
variable {gx gm : GM} {len : Nat} {tx : Nat → Nat} {b T wb w a P0 N0 P N z np dp : Nat} {S : St} {pl : Nat → Nat} {st : List Fn}
theorem EX.cong {pl' : Nat → Nat} (h : EX gx gm S b T wb w a P0 N0 P N z np dp pl st) (hp : ∀ j, j < np → pl j = pl' j) : EX gx gm S b T wb w a P0 N0 P N z np dp pl' st := ⟨h.1, h.2.1, h.2.2.1, h.2.2.2.1, h.2.2.2.2.1, fun j hj => by rw [← hp j hj]; exact h.2.2.2.2.2 j hj⟩
theorem nI_p1 (n : Nat) : nI (n + 1) - 1 = nI n := by rw [show (1 : Int32) = nI 1 from rfl, nI_sub (by omega)]; rfl
/-- the top goes -/
theorem m_pop (hwb : wb < 2) (hE : EX gx gm S b T wb w a P0 N0 P N z (np + 1) dp pl st) (hz : z < 600) (hnp : np < 60) {x1 o : Nat} (ho : pl np = o) (ho1 : 1 ≤ o) (ho3 : o ≤ 3) (hx : x1 ≤ o) {st' : List Fn} (hst : st1 st (.inr (3 - o)) = some st') {dp' : Nat} (hd : dp = if o = 3 then dp' + 1 else dp') :
    ∃ gm', (∀ kb, F_X7_behind_30B (nI x1) kb gm = kb gm') ∧ EX gx gm' S b T wb w a P0 N0 P N (z + 1) np dp' pl st' ∧ TgM gm gm' ∧ Ow (PEm wb P0 N0 a) QTm gm gm' := by
  have h43 : gi gm 0 43 = nI (np + 1) := hE.2.2.2.1
  have h44 : gi gm 0 44 = nI dp := hE.2.2.2.2.1
  have h26 : gi gm 26 np = nI o := by rw [← ho]; exact hE.2.2.2.2.2 np (by omega)
  have haz := hE.2.2.1.2.1
  -- without the top
  have step : ∃ g1, EX gx g1 S b T wb w a P0 N0 P N z np dp' pl st ∧ TgM gm g1 ∧ Ow (PEm wb P0 N0 a) QTm gm g1 ∧ (∀ kb, F_X7_behind_30B (nI x1) kb gm = F_X7_behind_93 kb (nI x1) g1) ∧ gi g1 26 np = nI o := by
    have q3 : ¬ (3 : Int32) < nI o := fun q => by have := (nI_ltI (a := 3) (b := o) (by decide) (by omega)).mp q; omega
    have qx : ¬ nI o < nI x1 := fun q => by have := (nI_ltI (by omega) (by omega)).mp q; omega
    have g43 : gi (si gm 0 43 (nI np)) 0 43 = nI np := gi_same
    have g26 : gi (si gm 0 43 (nI np)) 26 np = nI o := by rw [gi_si, if_neg (by omega)]; exact h26
    have pre : ∀ kb, F_X7_behind_30B (nI x1) kb gm = if nI o = 3 then F_X7_behind_93 kb (nI x1) (si (si gm 0 43 (nI np)) 0 44 (gi (si gm 0 43 (nI np)) 0 44 - 1)) else F_X7_behind_93 kb (nI x1) (si gm 0 43 (nI np)) := by
      intro kb
      unfold F_X7_behind_30B
      rw [h43, nI_p1, ck_true (inB_nI hnp (by decide)), nI_clamp (by omega), h26, if_neg q3, ck_true (inB_nI hnp (by decide)), if_neg qx, lt_def, g43, ck_true (inB_nI hnp (by decide)), nI_clamp (by omega), g26, lt_def]
    by_cases c3 : o = 3
    · subst c3
      rw [if_pos rfl] at hd
      have e44 : gi (si gm 0 43 (nI np)) 0 44 - 1 = nI dp' := by rw [gi_si, if_neg (by decide), h44, hd, nI_p1]
      refine ⟨si (si gm 0 43 (nI np)) 0 44 (nI dp'), ?_, ?_, ?_, fun kb => ?_, ?_⟩
      · exact hE.pil (fun a i p q => by rw [gi_si, if_neg (by omega), gi_si, if_neg (by omega)]) (fun _ _ => rfl) (by rw [gi_si, if_neg (by decide), gi_same]) gi_same (fun j hj => by rw [gi_si, if_neg (by omega), gi_si, if_neg (by omega)]; exact hE.2.2.2.2.2 j (by omega))
      · exact ((TgM.rf gm).si (Or.inr (Or.inr (by decide))) (by decide)).si (Or.inr (Or.inr (by decide))) (by decide)
      · exact ((Ow.rf gm).si (Or.inl ⟨rfl, Or.inr (by omega)⟩)).si (Or.inl ⟨rfl, Or.inr (by omega)⟩)
      · rw [pre, if_pos (show nI 3 = 3 from rfl), e44]
      · rw [gi_si, if_neg (by omega)]; exact g26
    · rw [if_neg c3] at hd
      subst hd
      refine ⟨si gm 0 43 (nI np), ?_, ?_, ?_, fun kb => ?_, g26⟩
      · exact hE.pil (fun a i p q => by rw [gi_si, if_neg (by omega)]) (fun _ _ => rfl) gi_same (by rw [gi_si, if_neg (by decide)]; exact h44) (fun j hj => by rw [gi_si, if_neg (by omega)]; exact hE.2.2.2.2.2 j (by omega))
      · exact (TgM.rf gm).si (Or.inr (Or.inr (by decide))) (by decide)
      · exact (Ow.rf gm).si (Or.inl ⟨rfl, Or.inr (by omega)⟩)
      · rw [pre, if_neg (fun q => by have := (nI_eq (a := o) (b := 3) (by omega) (by decide)).mp q; omega)]
  obtain ⟨g1, k1, k2, k3, k4, k5⟩ := step
  have k43 : gi g1 0 43 = nI np := k1.2.2.2.1
  have ms := m_step (x := nI (opc (3 - o))) (y := 0) k1.1.2.2.2.2 k1.2.2.1.1 hwb hz
  refine ⟨gmS g1 wb z (nI (opc (3 - o))) 0, fun kb => ?_, k1.op hst, fun i => ?_, gmS_ow k3 haz hz⟩
  · rw [k4]
    unfold F_X7_behind_93 F_X7_behind_132
    rw [k43, ck_true (inB_nI hnp (by decide)), nI_clamp (by omega), k5, ck_true (inB_nI hnp (by decide))]
    have e3 : nI o = 3 ↔ o = 3 := nI_eq (b := 3) (by omega) (by decide)
    have e2 : nI o = 2 ↔ o = 2 := nI_eq (b := 2) (by omega) (by decide)
    have hcase : o = 1 ∨ o = 2 ∨ o = 3 := by omega
    rcases hcase with rfl | rfl | rfl
    · rw [if_neg (by decide), if_neg (by decide)]
      have ms' : F_X7_step 124 0 g1 = some (gmS g1 wb z (nI (opc (3 - 1))) 0) := ms
      rw [ms', Option.bind_some]
    · rw [if_neg (by decide), if_pos (by decide)]
      have ms' : F_X7_step 38 0 g1 = some (gmS g1 wb z (nI (opc (3 - 2))) 0) := ms
      rw [ms', Option.bind_some]
    · rw [if_pos (by decide)]
      have ms' : F_X7_step 126 0 g1 = some (gmS g1 wb z (nI (opc (3 - 3))) 0) := ms
      rw [ms', Option.bind_some]
  · have h := gmS_tg (gm := g1) (wb := wb) (z := z) (x := nI (opc (3 - o))) (y := 0) i
    have h' := k2 i
    exact ⟨fun p q => (h.1 p q).trans (h'.1 p q), h.2.1.trans h'.2.1, h.2.2.trans h'.2.2⟩
/-- the top stays -/
theorem m_stop (hE : EX gx gm S b T wb w a P0 N0 P N z (np + 1) dp pl st) (hnp : np < 60) {x1 o : Nat} (ho : pl np = o) (ho5 : o ≤ 5) (hx1 : x1 ≤ 2) (hx : 4 ≤ o ∨ o < x1) (kb : GM → Option (Int32 × GM)) : F_X7_behind_30B (nI x1) kb gm = F_X7_behind_139 (nI x1) gm := by
  have h43 : gi gm 0 43 = nI (np + 1) := hE.2.2.2.1
  have h26 : gi gm 26 np = nI o := by rw [← ho]; exact hE.2.2.2.2.2 np (by omega)
  unfold F_X7_behind_30B
  rw [h43, nI_p1, ck_true (inB_nI hnp (by decide)), nI_clamp (by omega), h26]
  by_cases c : 3 < o
  · rw [if_pos (show (3 : Int32) < nI o from nI_lt (a := 3) c (by omega))]
  · rw [if_neg (fun q => by have := (nI_ltI (a := 3) (b := o) (by decide) (by omega)).mp q; omega), ck_true (inB_nI hnp (by decide)), if_pos (nI_lt (by omega) (by omega))]
theorem TgM.tr {g1 g2 g3 : GM} (h1 : TgM g1 g2) (h2 : TgM g2 g3) : TgM g1 g3 := fun i => ⟨fun p q => ((h2 i).1 p q).trans ((h1 i).1 p q), (h2 i).2.1.trans (h1 i).2.1, (h2 i).2.2.trans (h1 i).2.2⟩
theorem m_nots (hwb : wb < 2) {x1 : Nat} (hx1 : x1 ≤ 2) : ∀ k z gm f, EX gx gm S b T wb w a P0 N0 P N z (np + k) (dp + k) pl (f :: st) → (∀ j, np ≤ j → j < np + k → pl j = 3) → z + k + np ≤ 601 → 1 ≤ np → np + k ≤ 60 →
    ∃ gm', (∀ n, fixN (F_X7_behind_30B (nI x1)) (n + k) gm = fixN (F_X7_behind_30B (nI x1)) n gm') ∧ EX gx gm' S b T wb w a P0 N0 P N (z + k) np dp pl ((fun r => nk k (f r)) :: st) ∧ TgM gm gm' ∧ Ow (PEm wb P0 N0 a) QTm gm gm' := by
  intro k
  induction k with
  | zero => intro z gm f hE _ _ _ _; exact ⟨gm, fun n => rfl, hE, TgM.rf gm, Ow.rf gm⟩
  | succ k ih =>
    intro z gm f hE hp hz hnp h60
    obtain ⟨g1, q1, q2, q3, q4⟩ := m_pop (np := np + k) (dp' := dp + k) hwb hE (by omega) (by omega) (hp (np + k) (by omega) (by omega)) (by decide) (by decide) (show x1 ≤ 3 by omega) (st' := (fun r => !f r) :: st) rfl rfl
    obtain ⟨g2, r1, r2, r3, r4⟩ := ih (z + 1) g1 (fun r => !f r) q2 (fun j h1 h2 => hp j h1 (by omega)) (by omega) hnp (by omega)
    refine ⟨g2, fun n => ?_, ?_, q3.tr r3, q4.tr r4⟩
    · show F_X7_behind_30B (nI x1) (fixN (F_X7_behind_30B (nI x1)) (n + k)) gm = _
      rw [q1]; exact r1 n
    · have e : (fun r => nk k (!f r)) = (fun r => nk (k + 1) (f r)) := by funext r; rw [nk_not]; rfl
      rw [e, show z + 1 + k = z + (k + 1) by omega] at r2
      exact r2
theorem m_popA (hwb : wb < 2) {x1 : Nat} (hx1 : x1 ≤ 2) {la : Option Fn} {v : Fn} (hE : EX gx gm S b T wb w a P0 N0 P N z (np + cnt la) dp pl (v :: (opt la ++ st))) (hp : cnt la = 1 → pl np = 2) (hz : z + cnt la + np ≤ 601) (hnp : 1 ≤ np) (h60 : np < 60) :
    ∃ gm', (∀ n, fixN (F_X7_behind_30B (nI x1)) (n + cnt la) gm = fixN (F_X7_behind_30B (nI x1)) n gm') ∧ EX gx gm' S b T wb w a P0 N0 P N (z + cnt la) np dp pl (cmA la v :: st) ∧ TgM gm gm' ∧ Ow (PEm wb P0 N0 a) QTm gm gm' := by
  cases la with
  | none => exact ⟨gm, fun n => rfl, hE, TgM.rf gm, Ow.rf gm⟩
  | some f =>
    have hz' : z + 1 + np ≤ 601 := hz
    obtain ⟨g1, q1, q2, q3, q4⟩ := m_pop (np := np) (dp' := dp) hwb hE (by omega) h60 (hp rfl) (by decide) (by decide) hx1 (st' := (fun r => f r && v r) :: st) rfl rfl
    refine ⟨g1, fun n => ?_, q2, q3, q4⟩
    show F_X7_behind_30B (nI x1) (fixN (F_X7_behind_30B (nI x1)) n) gm = _
    rw [q1]
theorem m_popO (hwb : wb < 2) {x1 : Nat} (hx1 : x1 ≤ 1) {lo : Option Fn} {v : Fn} (hE : EX gx gm S b T wb w a P0 N0 P N z (np + cnt lo) dp pl (v :: (opt lo ++ st))) (hp : cnt lo = 1 → pl np = 1) (hz : z + cnt lo + np ≤ 601) (hnp : 1 ≤ np) (h60 : np < 60) :
    ∃ gm', (∀ n, fixN (F_X7_behind_30B (nI x1)) (n + cnt lo) gm = fixN (F_X7_behind_30B (nI x1)) n gm') ∧ EX gx gm' S b T wb w a P0 N0 P N (z + cnt lo) np dp pl (cmO lo v :: st) ∧ TgM gm gm' ∧ Ow (PEm wb P0 N0 a) QTm gm gm' := by
  cases lo with
  | none => exact ⟨gm, fun n => rfl, hE, TgM.rf gm, Ow.rf gm⟩
  | some f =>
    have hz' : z + 1 + np ≤ 601 := hz
    obtain ⟨g1, q1, q2, q3, q4⟩ := m_pop (np := np) (dp' := dp) hwb hE (by omega) h60 (hp rfl) (by decide) (by decide) hx1 (st' := (fun r => f r || v r) :: st) rfl rfl
    refine ⟨g1, fun n => ?_, q2, q3, q4⟩
    show F_X7_behind_30B (nI x1) (fixN (F_X7_behind_30B (nI x1)) n) gm = _
    rw [q1]
theorem cnt_le (o : Option Fn) : cnt o ≤ 1 := by
  cases o with
  | none => exact Nat.zero_le _
  | some f => exact Nat.le_refl _
/-- behind an "and" -/
theorem m_back2 (hwb : wb < 2) {lo la : Option Fn} {k nb : Nat} {f : Fn} (hE : EX gx gm S b T wb w a P0 N0 P N z (nb + 1 + cnt lo + cnt la + k) (dp + k) pl (f :: (opt la ++ (opt lo ++ st)))) (hk : ∀ j, nb + 1 + cnt lo + cnt la ≤ j → j < nb + 1 + cnt lo + cnt la + k → pl j = 3) (hA : cnt la = 1 → pl (nb + 1 + cnt lo) = 2) (hO : cnt lo = 1 → pl (nb + 1) = 1) (hb4 : 4 ≤ pl nb) (hb5 : pl nb ≤ 5) (hz : z + (nb + 1 + cnt lo + cnt la + k) ≤ 601) (h60 : nb + 1 + cnt lo + cnt la + k ≤ 50) :
    ∃ gm', fixN (F_X7_behind_30B 2) FU gm = F_X7_behind_139 2 gm' ∧ EX gx gm' S b T wb w a P0 N0 P N (z + k + cnt la) (nb + 1 + cnt lo) dp pl (cmA la (fun r => nk k (f r)) :: (opt lo ++ st)) ∧ TgM gm gm' ∧ Ow (PEm wb P0 N0 a) QTm gm gm' := by
  obtain ⟨g1, q1, q2, q3, q4⟩ := m_nots hwb (x1 := 2) (by decide) k z gm f hE hk (by omega) (by omega) (by omega)
  obtain ⟨g2, r1, r2, r3, r4⟩ := m_popA hwb (x1 := 2) (by decide) q2 hA (by omega) (by omega) (by have := cnt_le la; omega)
  refine ⟨g2, ?_, r2, q3.tr r3, q4.tr r4⟩
  have hc := cnt_le la
  have hFU : FU = (69998 - k - cnt la + 1 + 1) + cnt la + k := by show 70000 = _; omega
  have e1 := q1 ((69998 - k - cnt la + 1 + 1) + cnt la)
  have e2 := r1 (69998 - k - cnt la + 1 + 1)
  rw [show (2 : Int32) = nI 2 from rfl, hFU, e1, e2]
  cases lo with
  | none => exact m_stop (np := nb) r2 (by omega) rfl hb5 (by decide) (Or.inl hb4) _
  | some f => exact m_stop (np := nb + 1) r2 (by omega) (hO rfl) (by decide) (by decide) (Or.inr (by decide)) _
/-- behind an "or", and at the end -/
theorem m_back1 (hwb : wb < 2) {x1 : Nat} (hx1 : x1 ≤ 1) {lo la : Option Fn} {k nb : Nat} {f : Fn} (hE : EX gx gm S b T wb w a P0 N0 P N z (nb + 1 + cnt lo + cnt la + k) (dp + k) pl (f :: (opt la ++ (opt lo ++ st)))) (hk : ∀ j, nb + 1 + cnt lo + cnt la ≤ j → j < nb + 1 + cnt lo + cnt la + k → pl j = 3) (hA : cnt la = 1 → pl (nb + 1 + cnt lo) = 2) (hO : cnt lo = 1 → pl (nb + 1) = 1) (hb4 : 4 ≤ pl nb) (hb5 : pl nb ≤ 5) (hz : z + (nb + 1 + cnt lo + cnt la + k) ≤ 601) (h60 : nb + 1 + cnt lo + cnt la + k ≤ 50) :
    ∃ gm', fixN (F_X7_behind_30B (nI x1)) FU gm = F_X7_behind_139 (nI x1) gm' ∧ EX gx gm' S b T wb w a P0 N0 P N (z + k + cnt la + cnt lo) (nb + 1) dp pl (cmO lo (cmA la (fun r => nk k (f r))) :: st) ∧ TgM gm gm' ∧ Ow (PEm wb P0 N0 a) QTm gm gm' := by
  obtain ⟨g1, q1, q2, q3, q4⟩ := m_nots hwb (x1 := x1) (by omega) k z gm f hE hk (by omega) (by omega) (by omega)
  have hc := cnt_le la
  have hd := cnt_le lo
  obtain ⟨g2, r1, r2, r3, r4⟩ := m_popA hwb (x1 := x1) (by omega) q2 hA (by omega) (by omega) (by omega)
  obtain ⟨g3, s1, s2, s3, s4⟩ := m_popO hwb hx1 r2 hO (by omega) (by omega) (by omega)
  refine ⟨g3, ?_, s2, (q3.tr r3).tr s3, (q4.tr r4).tr s4⟩
  have hFU : FU = (69996 - k - cnt la - cnt lo + 3 + 1) + cnt lo + cnt la + k := by show 70000 = _; omega
  have e1 := q1 ((69996 - k - cnt la - cnt lo + 3 + 1) + cnt lo + cnt la)
  have e2 := r1 ((69996 - k - cnt la - cnt lo + 3 + 1) + cnt lo)
  have e3 := s1 (69996 - k - cnt la - cnt lo + 3 + 1)
  rw [hFU, e1, e2, e3]
  exact m_stop (np := nb) s2 (by omega) rfl hb5 (by omega) (Or.inl hb4) _
end POPS
