/-! a wish read by both sides -/
def PUx (a i : Nat) : Prop := (a = 1 ∧ 4 ≤ i ∧ i ≤ 10) ∨ (a = 42 ∧ 4 ≤ i ∧ i ≤ 6) ∨ a = 43
def PVx (a i : Nat) : Prop := (a = 1 ∧ 4 ≤ i ∧ i ≤ 10) ∨ (35 ≤ a ∧ a ≤ 41) ∨ (a = 42 ∧ 4 ≤ i ∧ i ≤ 6) ∨ a = 43
def PVm (wb W P N z a i : Nat) : Prop := (a = 0 ∧ ((4 ≤ i ∧ i ≤ 10) ∨ (39 ≤ i ∧ i ≤ 44))) ∨ a = 26 ∨ (a = 14 ∧ i = wb) ∨ (15 ≤ a ∧ a ≤ 20 ∧ i = 10 * wb + W) ∨ ((a = 21 ∨ a = 22) ∧ 600 * wb + z ≤ i ∧ i < 600 * wb + 600) ∨ ((a = 23 ∨ a = 24) ∧ 40 * wb + P ≤ i ∧ i < 40 * wb + 40) ∨ (a = 25 ∧ 160 * wb + N ≤ i ∧ i < 160 * wb + 160)
theorem Ow.pux {g g' : GM} (h : Ow PT QT g g') : Ow PUx QT g g' := h.mono (fun a b q => Or.inl q) (fun a b q => q)
theorem Ow.pux' {g g' : GM} (h : Ow PMx QT g g') : Ow PUx QT g g' := h.mono (fun a b q => by unfold PMx at q; unfold PUx; omega) (fun a b q => q)
theorem Ow.pvx {g g' : GM} (h : Ow PUx QT g g') : Ow PVx QT g g' := h.mono (fun a b q => by unfold PUx at q; unfold PVx; omega) (fun a b q => q)
theorem Ow.pvm {wb W P N z : Nat} {g g' : GM} (h : Ow PTm QTm g g') : Ow (PVm wb W P N z) QTm g g' := h.mono (fun a b q => Or.inl ⟨q.1, Or.inl q.2⟩) (fun a b q => q)
theorem Ow.pvm' {wb W P N z : Nat} {g g' : GM} (h : Ow (PEm wb P N z) QTm g g') : Ow (PVm wb W P N z) QTm g g' := h.mono (fun a b q => by unfold PEm at q; unfold PVm; omega) (fun a b q => q)
def WRD (gx gm : GM) (S : St) (b wb : Nat) (D : Dm) (P N z : Nat) : Prop :=
  (SS 6 b gx gm S ∧ gi gm 0 23 = nI b ∧ gi gm 0 38 = nI wb ∧ gi gm 14 wb = nI (dW D)) ∧
  (gi gx 42 5 = nI P ∧ gi gm 0 40 = nI P ∧ gi gm 0 41 = nI N ∧ P ≤ 40 ∧ N ≤ 4 * P ∧ gi gm 0 39 = nI z) ∧
  DX 35 gx S D raw 0 ∧ DSs S D ∧ DKs gm S b wb P N z D
theorem DX.ag {B : Nat} {gx gx' : GM} {S : St} {D : Dm} {q : Nat → Nat → Nat} {G : Nat} (h : DX B gx S D q G) (hx : ∀ a i, a ≤ 6 → gi gx' (B + a) i = gi gx (B + a) i) : DX B gx' S D q G := by
  obtain ⟨h1, h2, m, ow, nd, hp, h3, h4, h5, h6⟩ := h
  refine ⟨by rw [show gi gx' B 0 = gi gx B 0 from hx 0 0 (by decide)]; exact h1, fun k hk => by rw [hx _ _ (by decide), hx _ _ (by decide), hx _ _ (by decide)]; exact h2 k hk, m, ow, nd, hp, by rw [show gi gx' B 4 = gi gx B 4 from hx 0 4 (by decide)]; exact h3, h4, fun j hj => by rw [hx _ _ (by decide), hx _ _ (by decide), hx _ _ (by decide)]; exact h5 j hj, h6⟩
theorem DKs.fr {gm gm' : GM} {S : St} {b wb P N z P' N' z' : Nat} {D : Dm} (h : DKs gm S b wb P N z D) (ho : Ow (PVm wb (dW D) P N z) QTm gm gm') (hP : P ≤ P') (hP' : P' ≤ 40) (hN : N ≤ N') (hN' : N' ≤ 160) (hz : z ≤ z') : DKs gm' S b wb P' N' z' D := fun k hk =>
  (h k hk).ag (fun a p q => ho.1 _ _ (by unfold PVm; omega)) (fun i hi => ⟨ho.1 _ _ (by unfold PVm; omega), ho.1 _ _ (by unfold PVm; omega)⟩) (fun i hi => ⟨ho.1 _ _ (by unfold PVm; omega), ho.1 _ _ (by unfold PVm; omega)⟩) (fun i hi => ho.1 _ _ (by unfold PVm; omega)) hP hP' hN hN' hz
section WISH
variable {gx gm : GM} {len : Nat} {tx : Nat → Nat} {t : Tk} {s e b T wb w P N z : Nat} {S : St} {D : Dm}
theorem x_rowsOf (h : SS 6 b gx gm S) (hT : T < 65536) : F_X2_rowsOf_s (nI T) gx = some (nI (bs (fun r => decide (sB S r = T)) (sR S))) := by
  obtain ⟨n1, n2, n3, n4, n5⟩ := h.r16
  refine fix_for0 (B := F_X2_rowsOf_s_4B (nI T) gx) (fun i => (nI (bs (fun r => decide (sB S r = T)) i), nI i)) (sR S) _ (fun i hi kb => ?_) (fun kb => ?_) (by omega)
  · obtain ⟨w1, w2, w3, _⟩ := h.rw hi
    unfold F_X2_rowsOf_s_4B F_X2_rowsOf_s_28
    dsimp only
    have e1 : (nI (sB S i) = nI T) ↔ sB S i = T := nI_eq (by omega) (by omega)
    rw [n2, if_neg (nI_ge hi (by omega)), ck_true (inB_nI (by omega) (by decide)), nI_clamp (by omega), w3, shl1 (by omega), nI_or, lt_def, lt_def, lt_def, nI_1]
    simp only [e1, bs, decide_eq_true_eq]
    by_cases q1 : sB S i = T
    · simp [q1]
    · simp [q1]
  · unfold F_X2_rowsOf_s_4B
    dsimp only
    rw [n2, if_pos (nI_le (Nat.le_refl _) (by omega))]
theorem Fa.sim (hF : Fa gx gm) {a k : Nat} {v : Int32} (ha : 3 ≤ a) : Fa gx (si gm a k v) := hF.tg (TgX.rf gx) ((TgM.rf gm).si (Or.inl (by omega)) (by omega))
theorem f_w199 (hF : Fa gx gm) (h38 : gi gm 0 38 = nI wb) (hwb : wb < 2) (hw : w < 10) : ∃ gm', F_X7_readWish_199 (nI (10 * wb + w)) gm = some gm' ∧ Fa gx gm' ∧ Ow (PVm wb w P N z) QTm gm gm' := by
  have hF1 : Fa gx (si gm 20 (10 * wb + w) (gi gm 0 39)) := hF.sim (by decide)
  obtain ⟨r, hr⟩ := hF1.is 59
  have e38 : gi (si gm 20 (10 * wb + w) (gi gm 0 39)) 0 38 = nI wb := by rw [gi_si, if_neg (by omega)]; exact h38
  refine ⟨_, ?_, hF1.sim (a := 14) (k := wb) (v := gi (si gm 20 (10 * wb + w) (gi gm 0 39)) 14 wb + 1) (by decide), ((Ow.rf gm).si (Or.inr (Or.inr (Or.inr (Or.inl ⟨by decide, by decide, rfl⟩))))).si (Or.inr (Or.inr (Or.inl ⟨rfl, rfl⟩)))⟩
  unfold F_X7_readWish_199
  rw [ck_true (inB_nI (by omega) (by decide)), nI_clamp (by omega), lt_def, hr, Option.bind_some, hF1.must, Option.bind_some, e38, ck_true (inB_nI hwb (by decide)), ck_true (inB_nI hwb (by decide)), nI_clamp (by omega), lt_def]
theorem f_w159 (hF : Fa gx gm) (h38 : gi gm 0 38 = nI wb) (hwb : wb < 2) (hw : w < 10) (x1 : Int32) : ∃ gm', F_X7_readWish_159 x1 (nI (10 * wb + w)) gm = some gm' ∧ Fa gx gm' ∧ Ow (PVm wb w P N z) QTm gm gm' := by
  have hF1 : Fa gx (si gm 19 (10 * wb + w) (gi gm 0 39)) := hF.sim (by decide)
  have e38 : gi (si gm 19 (10 * wb + w) (gi gm 0 39)) 0 38 = nI wb := by rw [gi_si, if_neg (by omega)]; exact h38
  obtain ⟨gm', a1, a2, a3⟩ := f_w199 (P := P) (N := N) (z := z) hF1 e38 hwb hw
  refine ⟨gm', ?_, a2, ((Ow.rf gm).si (Or.inr (Or.inr (Or.inr (Or.inl ⟨by decide, by decide, rfl⟩))))).tr a3⟩
  unfold F_X7_readWish_159
  rw [ck_true (inB_nI (by omega) (by decide)), nI_clamp (by omega), lt_def, hF1.bad, Option.bind_some, if_pos (show (0 : Int32) = 0 from rfl), a1]
  split <;> rfl
theorem f_readBy (hF : Fa gx gm) (x : Int32) : F_X7_readBy x gm = some gm := by
  unfold F_X7_readBy F_X7_readBy_19
  rw [hF.bad, Option.bind_some, if_pos rfl, Option.bind_some, if_pos rfl]
/-- behind the number, a fault being there -/
theorem f_w106a (hF : Fa gx gm) (h38 : gi gm 0 38 = nI wb) (hwb : wb < 2) (hw : w < 10) (x1 : Int32) : ∃ gm', (if x1 = 0 then (F_X7_aTable gm).bind fun (r_13, g_14) => ckB (inB (nI (10 * wb + w)) 20) (lt (si g_14 15 (nI (10 * wb + w)).toNatClampNeg r_13) fun g_15 => F_X7_readWish_159 x1 (nI (10 * wb + w)) g_15) else (F_X7_aTable gm).bind fun (r_16, g_17) => ckB (inB (nI (10 * wb + w)) 20) (lt (si g_17 17 (nI (10 * wb + w)).toNatClampNeg r_16) fun g_18 => (F_X7_isWord 25209 g_18).bind fun r_19 => (F_X7_must r_19 g_18).bind fun g_20 => (F_X7_readBy (nI (10 * wb + w)) g_20).bind fun g_21 => F_X7_readWish_159 x1 (nI (10 * wb + w)) g_21)) = some gm' ∧ Fa gx gm' ∧ Ow (PVm wb w P N z) QTm gm gm' := by
  have eT : F_X7_aTable gm = some (-1, gm) := by
    unfold F_X7_aTable F_X7_aTable_19 F_X7_aTable_42 F_X7_aTable_63
    rw [hF.bad, Option.bind_some, if_pos rfl, Option.bind_some, if_pos rfl, Option.bind_some, if_pos rfl, Option.bind_some, if_pos rfl]
  rw [eT, Option.bind_some, Option.bind_some]
  dsimp only
  rw [ck_true (inB_nI (by omega) (by decide)), ck_true (inB_nI (by omega) (by decide)), nI_clamp (by omega), lt_def, lt_def]
  by_cases c : x1 = 0
  · rw [if_pos c]
    obtain ⟨gm', a1, a2, a3⟩ := f_w159 (P := P) (N := N) (z := z) (hF.sim (a := 15) (k := 10 * wb + w) (v := -1) (by decide)) (by rw [gi_si, if_neg (by omega)]; exact h38) hwb hw x1
    exact ⟨gm', a1, a2, ((Ow.rf gm).si (Or.inr (Or.inr (Or.inr (Or.inl ⟨by decide, by decide, rfl⟩))))).tr a3⟩
  · rw [if_neg c]
    have hF1 : Fa gx (si gm 17 (10 * wb + w) (-1)) := hF.sim (by decide)
    obtain ⟨r, hr⟩ := hF1.isWord 25209
    obtain ⟨gm', a1, a2, a3⟩ := f_w159 (P := P) (N := N) (z := z) hF1 (by rw [gi_si, if_neg (by omega)]; exact h38) hwb hw x1
    refine ⟨gm', ?_, a2, ((Ow.rf gm).si (Or.inr (Or.inr (Or.inr (Or.inl ⟨by decide, by decide, rfl⟩))))).tr a3⟩
    rw [hr, Option.bind_some, hF1.must, Option.bind_some, f_readBy hF1, Option.bind_some]
    exact a1
theorem f_w106 (hF : Fa gx gm) (h38 : gi gm 0 38 = nI wb) (hwb : wb < 2) (hw : w < 10) (x1 : Int32) : ∃ gm', F_X7_readWish_106 x1 (nI (10 * wb + w)) gm = some gm' ∧ Fa gx gm' ∧ Ow (PVm wb w P N z) QTm gm gm' := by
  obtain ⟨gm', a1, a2, a3⟩ := f_w106a (P := P) (N := N) (z := z) (hF.sim (a := 16) (k := 10 * wb + w) (v := gi gm 0 9) (by decide)) (by rw [gi_si, if_neg (by omega)]; exact h38) hwb hw x1
  refine ⟨gm', ?_, a2, ((Ow.rf gm).si (Or.inr (Or.inr (Or.inr (Or.inl ⟨by decide, by decide, rfl⟩))))).tr a3⟩
  unfold F_X7_readWish_106
  rw [(f_need hF).2, Option.bind_some]
  dsimp only
  rw [ck_true (inB_nI (by omega) (by decide)), nI_clamp (by omega), lt_def]
  have e := nI_clamp (n := 10 * wb + w) (by omega)
  rw [e] at a1
  exact a1
end WISH
