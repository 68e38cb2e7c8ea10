/-! both readers at one token -/
def Sg (gx gm : GM) (w : Bool) : Prop := gi gx 1 3 = (if w then 2 else 1) ∧ gi gm 0 11 = (if w then 1 else 0) ∧ RsX gx
def Sy (gx gm : GM) (len : Nat) (tx : Nat → Nat) (w : Bool) (t : Tk) (s e : Nat) : Prop :=
  XTx gx len tx ∧ MTx gm len tx ∧ Sg gx gm w ∧ TkX gx t s e ∧ TkM gm len tx t s e ∧ (s ≤ e ∧ e ≤ len ∧ (¬ t = Tk.fin → s < e) ∧ ∀ c, t = Tk.sgn c → c ∈ SG w) ∧ (gi gx 1 9 = 0 ∧ gi gm 0 4 = 0 ∧ gi gx 1 10 = -1 ∧ gi gm 0 5 = -1)
/-- both have met the same fault -/
def XA (g : GM) (len : Nat) (tx : Nat → Nat) (w : Bool) (p : Nat) : Prop := XTx g len tx ∧ gi g 1 4 = nI p ∧ p ≤ len ∧ gi g 1 3 = (if w then 2 else 1) ∧ RsX g
def Fa0 (gx gm : GM) : Prop := ∃ k p, 1 ≤ k ∧ k ≤ 6 ∧ gi gx 1 9 = nI k ∧ gi gm 0 4 = nI k ∧ gi gx 1 10 = nI p ∧ gi gm 0 5 = nI p
def FaE (gx gm : GM) : Prop := ∃ len tx w, MTx gm len tx ∧ (∃ s, s ≤ len ∧ gi gm 0 6 = nI s) ∧ ∃ p, XA gx len tx w p
def Fa (gx gm : GM) : Prop := Fa0 gx gm ∧ FaE gx gm
/-- g' is g but for some slots -/
def Ow (P Q : Nat → Nat → Prop) (g g' : GM) : Prop := (∀ a b, ¬ P a b → gi g' a b = gi g a b) ∧ ∀ a b, ¬ Q a b → gl g' a b = gl g a b
theorem Ow.rf {P Q : Nat → Nat → Prop} (g : GM) : Ow P Q g g := ⟨fun _ _ _ => rfl, fun _ _ _ => rfl⟩
theorem Ow.tr {P Q : Nat → Nat → Prop} {g1 g2 g3 : GM} (h1 : Ow P Q g1 g2) (h2 : Ow P Q g2 g3) : Ow P Q g1 g3 := ⟨fun a b h => (h2.1 a b h).trans (h1.1 a b h), fun a b h => (h2.2 a b h).trans (h1.2 a b h)⟩
theorem Ow.mono {P Q P' Q' : Nat → Nat → Prop} {g g' : GM} (h : Ow P Q g g') (hP : ∀ a b, P a b → P' a b) (hQ : ∀ a b, Q a b → Q' a b) : Ow P' Q' g g' := ⟨fun a b q => h.1 a b (fun r => q (hP a b r)), fun a b q => h.2 a b (fun r => q (hQ a b r))⟩
theorem Ow.si {P Q : Nat → Nat → Prop} {g g' : GM} {i k : Nat} {v : Int32} (h : Ow P Q g g') (hk : P i k) : Ow P Q g (si g' i k v) := ⟨fun a b q => by rw [gi_si, if_neg (fun r => q (by rw [r.1, r.2]; exact hk))]; exact h.1 a b q, fun a b q => by rw [gl_si]; exact h.2 a b q⟩
theorem Ow.sl {P Q : Nat → Nat → Prop} {g g' : GM} {i k : Nat} {v : Int64} (h : Ow P Q g g') (hk : Q i k) : Ow P Q g (sl g' i k v) := ⟨fun a b q => h.1 a b q, fun a b q => by rw [gl_sl, if_neg (fun r => q (by rw [r.1, r.2]; exact hk))]; exact h.2 a b q⟩
/-- the tape's slots for tokens and faults -/
def PT (a b : Nat) : Prop := a = 1 ∧ 4 ≤ b ∧ b ≤ 10
def QT (a b : Nat) : Prop := a = 1 ∧ b = 8
def PTm (a b : Nat) : Prop := a = 0 ∧ 4 ≤ b ∧ b ≤ 10
def QTm (a b : Nat) : Prop := a = 0 ∧ b = 10
theorem FrX.ow {g g' : GM} (h : FrX g g') : Ow PT QT g g' := ⟨fun a b q => h.1 a b (fun r => q ⟨r.1, by omega, by omega⟩), fun a b q => h.2 a b q⟩
theorem FrM.ow {g g' : GM} (h : FrM g g') : Ow PTm QTm g g' := ⟨fun a b q => h.1 a b (fun r => q ⟨r.1, by omega, by omega⟩), fun a b q => h.2 a b q⟩
section SYNC
variable {gx gm : GM} {len : Nat} {tx : Nat → Nat} {w : Bool} {t : Tk} {s e : Nat}
theorem SG_gt : ∀ c, c ∈ SG true → 14 < c ∧ c < 128 := by decide +kernel
theorem k_fin (h : dX gx t) : kX t = 0 ↔ t = Tk.fin := by
  constructor
  · intro q
    rcases t with _ | _ | ⟨w, v⟩ | i | k | c
    · rfl
    · exact absurd q (by decide)
    · exact absurd q (by show ¬ (2 : Int32) = 0; decide)
    · have hi : i < 11 := h
      have := (nI_eq (a := 4 + i) (b := 0) (by omega) (by decide)).mp q
      omega
    · exact absurd q (by show ¬ (3 : Int32) = 0; decide)
    · have := SG_gt c h
      have := (nI_eq (a := c) (b := 0) (by omega) (by decide)).mp q
      omega
  · intro q; subst q; rfl
theorem k_bad (h : dX gx t) : kX t = 1 ↔ t = Tk.bad := by
  constructor
  · intro q
    rcases t with _ | _ | ⟨w, v⟩ | i | k | c
    · exact absurd q (by show ¬ (0 : Int32) = 1; decide)
    · rfl
    · exact absurd q (by show ¬ (2 : Int32) = 1; decide)
    · have hi : i < 11 := h
      have := (nI_eq (a := 4 + i) (b := 1) (by omega) (by decide)).mp q
      omega
    · exact absurd q (by show ¬ (3 : Int32) = 1; decide)
    · have := SG_gt c h
      have := (nI_eq (a := c) (b := 1) (by omega) (by decide)).mp q
      omega
  · intro q; subst q; rfl
theorem k_nam (h : dX gx t) : kX t = 2 ↔ ∃ w v, t = Tk.nam w v := by
  constructor
  · intro q
    rcases t with _ | _ | ⟨w, v⟩ | i | k | c
    · exact absurd q (by show ¬ (0 : Int32) = 2; decide)
    · exact absurd q (by show ¬ (1 : Int32) = 2; decide)
    · exact ⟨w, v, rfl⟩
    · have hi : i < 11 := h
      have := (nI_eq (a := 4 + i) (b := 2) (by omega) (by decide)).mp q
      omega
    · exact absurd q (by show ¬ (3 : Int32) = 2; decide)
    · have := SG_gt c h
      have := (nI_eq (a := c) (b := 2) (by omega) (by decide)).mp q
      omega
  · rintro ⟨w, v, rfl⟩; rfl
theorem k_num (h : dX gx t) : kX t = 3 ↔ ∃ k, t = Tk.num k := by
  constructor
  · intro q
    rcases t with _ | _ | ⟨w, v⟩ | i | k | c
    · exact absurd q (by show ¬ (0 : Int32) = 3; decide)
    · exact absurd q (by show ¬ (1 : Int32) = 3; decide)
    · exact absurd q (by show ¬ (2 : Int32) = 3; decide)
    · have hi : i < 11 := h
      have := (nI_eq (a := 4 + i) (b := 3) (by omega) (by decide)).mp q
      omega
    · exact ⟨k, rfl⟩
    · have := SG_gt c h
      have := (nI_eq (a := c) (b := 3) (by omega) (by decide)).mp q
      omega
  · rintro ⟨k, rfl⟩; rfl
theorem k_wrd (h : dX gx t) {j : Nat} (hj : j < 11) : kX t = nI (4 + j) ↔ t = Tk.wrd j := by
  constructor
  · intro q
    rcases t with _ | _ | ⟨w, v⟩ | i | k | c
    · have := (nI_eq (a := 0) (b := 4 + j) (by decide) (by omega)).mp q
      omega
    · have := (nI_eq (a := 1) (b := 4 + j) (by decide) (by omega)).mp q
      omega
    · have := (nI_eq (a := 2) (b := 4 + j) (by decide) (by omega)).mp q
      omega
    · have hi : i < 11 := h
      have := (nI_eq (a := 4 + i) (b := 4 + j) (by omega) (by omega)).mp q
      have e : i = j := by omega
      rw [e]
    · have := (nI_eq (a := 3) (b := 4 + j) (by decide) (by omega)).mp q
      omega
    · have := SG_gt c h
      have := (nI_eq (a := c) (b := 4 + j) (by omega) (by omega)).mp q
      omega
  · intro q; subst q; rfl
theorem k_sgn (h : dX gx t) {d : Nat} (hd : d ∈ SG true) : kX t = nI d ↔ t = Tk.sgn d := by
  have hd' := SG_gt d hd
  constructor
  · intro q
    rcases t with _ | _ | ⟨w, v⟩ | i | k | c
    · have := (nI_eq (a := 0) (b := d) (by decide) (by omega)).mp q
      omega
    · have := (nI_eq (a := 1) (b := d) (by decide) (by omega)).mp q
      omega
    · have := (nI_eq (a := 2) (b := d) (by decide) (by omega)).mp q
      omega
    · have hi : i < 11 := h
      have := (nI_eq (a := 4 + i) (b := d) (by omega) (by omega)).mp q
      omega
    · have := (nI_eq (a := 3) (b := d) (by decide) (by omega)).mp q
      omega
    · have := SG_gt c h
      have := (nI_eq (a := c) (b := d) (by omega) (by omega)).mp q
      rw [this]
  · intro q; subst q; rfl
theorem Sy.kx (h : Sy gx gm len tx w t s e) : gi gx 1 5 = kX t := h.2.2.2.1.2.2.1
theorem Sy.dx (h : Sy gx gm len tx w t s e) : dX gx t := h.2.2.2.1.2.2.2
theorem Sy.km (h : Sy gx gm len tx w t s e) : gi gm 0 8 = kM t := h.2.2.2.2.1.2.2.1
theorem Sy.dm (h : Sy gx gm len tx w t s e) : dM gm len tx s t := h.2.2.2.2.1.2.2.2
theorem Sy.sx (h : Sy gx gm len tx w t s e) : gi gx 1 6 = nI s := h.2.2.2.1.2.1
theorem Sy.sm (h : Sy gx gm len tx w t s e) : gi gm 0 6 = nI s := h.2.2.2.2.1.2.1
theorem Sy.f0x (h : Sy gx gm len tx w t s e) : gi gx 1 9 = 0 := h.2.2.2.2.2.2.1
theorem Sy.f0m (h : Sy gx gm len tx w t s e) : gi gm 0 4 = 0 := h.2.2.2.2.2.2.2.1
theorem Sy.ln (h : Sy gx gm len tx w t s e) : s ≤ len ∧ len ≤ 1200 := ⟨Nat.le_trans h.2.2.2.2.2.1.1 h.2.2.2.2.2.1.2.1, h.1.1⟩
theorem m_good (h : gi gm 0 4 = 0) : F_X7_isGood gm = some 1 := by unfold F_X7_isGood; rw [if_pos h]
theorem Fa.nx (h : Fa gx gm) : ¬ gi gx 1 9 = 0 := by
  obtain ⟨⟨k, p, h1, h2, h3, h4, _⟩, _⟩ := h
  rw [h3]
  exact nI_ne0 (by omega) (by omega)
theorem Fa.nm (h : Fa gx gm) : ¬ gi gm 0 4 = 0 ∧ ¬ gi gm 0 4 ≤ 0 := by
  obtain ⟨⟨k, p, h1, h2, h3, h4, _⟩, _⟩ := h
  rw [h4]
  exact ⟨nI_ne0 (by omega) (by omega), nI_nle (by omega) (by omega)⟩
theorem Fa.bad (h : Fa gx gm) : F_X7_isGood gm = some 0 := by unfold F_X7_isGood; rw [if_neg h.nm.1]
theorem Fa.fails (h : Fa gx gm) (a b : Int32) : F_X7_fails a b gm = some gm := by unfold F_X7_fails; rw [if_neg h.nm.2]
theorem Fa.refuse (h : Fa gx gm) (a b : Int32) : F_X4_refuse a b gx = some gx := by unfold F_X4_refuse; rw [if_neg h.nx]
theorem Fa.refuseT (h : Fa gx gm) : F_X4_refuseToken gx = some gx := by
  unfold F_X4_refuseToken F_X4_refuseToken_14
  rw [h.refuse, h.refuse]
  split <;> rfl
theorem Fa.wrong (h : Fa gx gm) : F_X7_wrong gm = some gm := by
  unfold F_X7_wrong F_X7_wrong_14
  rw [h.fails, h.fails]
  split <;> rfl
theorem Fa.take (h : Fa gx gm) (a : Int32) : F_X4_take a gx = some (0, gx) := by unfold F_X4_take; rw [if_neg h.nx]
theorem Fa.must (h : Fa gx gm) (a : Int32) : F_X7_must a gm = some gm := by unfold F_X7_must; rw [h.bad, Option.bind_some, if_pos rfl]
theorem Fa.is (h : Fa gx gm) (a : Int32) : ∃ r, F_X7_is a gm = some r := by
  obtain ⟨_, len, tx, w, hM, ⟨s, hs, h6⟩, _⟩ := h
  unfold F_X7_is F_X7_is_24
  have := hM.1
  rw [h6, m_sign hM (by omega), Option.bind_some]
  split
  · split
    · exact ⟨_, rfl⟩
    · exact ⟨_, rfl⟩
  · exact ⟨_, rfl⟩
theorem Fa.isWord (h : Fa gx gm) (a : Int64) : ∃ r, F_X7_isWord a gm = some r := by
  unfold F_X7_isWord F_X7_isWord_21
  split
  · split
    · exact ⟨_, rfl⟩
    · exact ⟨_, rfl⟩
  · exact ⟨_, rfl⟩
/-- a fault comes up -/
theorem s_fail (h : Sy gx gm len tx w t s e) {k p : Nat} (h1 : 1 ≤ k) (h2 : k ≤ 6) : ∃ gx' gm', F_X4_refuse (nI k) (nI p) gx = some gx' ∧ F_X7_fails (nI k) (nI p) gm = some gm' ∧ Fa gx' gm' ∧ Ow PT QT gx gx' ∧ Ow PTm QTm gm gm' := by
  have hE : FaE (si (si gx 1 9 (nI k)) 1 10 (nI p)) (si (si gm 0 4 (nI k)) 0 5 (nI p)) := by
    refine ⟨len, tx, w, (h.2.1.si (by decide)).si (by decide), ⟨s, h.ln.1, ?_⟩, e, (h.1.si (by decide)).si (by decide), ?_, h.2.2.2.2.2.1.2.1, ?_, fun i hi => h.2.2.1.2.2 i hi⟩
    · rw [gi_si, if_neg (by decide), gi_si, if_neg (by decide)]; exact h.sm
    · rw [gi_si, if_neg (by decide), gi_si, if_neg (by decide)]; exact h.2.2.2.1.1
    · rw [gi_si, if_neg (by decide), gi_si, if_neg (by decide)]; exact h.2.2.1.1
  refine ⟨si (si gx 1 9 (nI k)) 1 10 (nI p), si (si gm 0 4 (nI k)) 0 5 (nI p), ?_, ?_, ⟨⟨k, p, h1, h2, ?_, ?_, ?_, ?_⟩, hE⟩, ?_, ?_⟩
  · unfold F_X4_refuse
    rw [if_pos h.f0x]
    rfl
  · unfold F_X7_fails
    rw [if_pos (by rw [h.f0m]; decide)]
    rfl
  · rw [gi_si, if_neg (by decide), gi_si, if_pos ⟨rfl, rfl⟩]
  · rw [gi_si, if_neg (by decide), gi_si, if_pos ⟨rfl, rfl⟩]
  · rw [gi_si, if_pos ⟨rfl, rfl⟩]
  · rw [gi_si, if_pos ⟨rfl, rfl⟩]
  · exact ((Ow.rf gx).si ⟨rfl, by decide, by decide⟩).si ⟨rfl, by decide, by decide⟩
  · exact ((Ow.rf gm).si ⟨rfl, by decide, by decide⟩).si ⟨rfl, by decide, by decide⟩
theorem s_wrong (h : Sy gx gm len tx w t s e) : ∃ gx' gm', F_X4_refuseToken gx = some gx' ∧ F_X7_wrong gm = some gm' ∧ Fa gx' gm' ∧ Ow PT QT gx gx' ∧ Ow PTm QTm gm gm' := by
  by_cases c : t = Tk.bad
  · obtain ⟨gx', gm', h1, h2, h3⟩ := s_fail h (k := 1) (p := s) (by decide) (by decide)
    refine ⟨gx', gm', ?_, ?_, h3⟩
    · unfold F_X4_refuseToken F_X4_refuseToken_14
      rw [h.kx, if_pos ((k_bad h.dx).mpr c), h.sx]
      have h1' : F_X4_refuse 1 (nI s) gx = some gx' := h1
      rw [h1']
      rfl
    · unfold F_X7_wrong F_X7_wrong_14
      rw [h.km, c, if_pos (by decide), h.sm]
      have h2' : F_X7_fails 1 (nI s) gm = some gm' := h2
      rw [h2']
      rfl
  · obtain ⟨gx', gm', h1, h2, h3⟩ := s_fail h (k := 2) (p := s) (by decide) (by decide)
    refine ⟨gx', gm', ?_, ?_, h3⟩
    · unfold F_X4_refuseToken F_X4_refuseToken_14
      rw [h.kx, if_neg (fun q => c ((k_bad h.dx).mp q)), h.sx]
      have h1' : F_X4_refuse 2 (nI s) gx = some gx' := h1
      rw [h1']
      rfl
    · have hk : ¬ kM t = 1 := by
        rcases t with _ | _ | ⟨w, v⟩ | i | k | c'
        · exact (by decide : ¬ (0 : Int32) = 1)
        · exact absurd rfl c
        · exact (by decide : ¬ (2 : Int32) = 1)
        · exact (by decide : ¬ (3 : Int32) = 1)
        · exact (by decide : ¬ (4 : Int32) = 1)
        · exact (by decide : ¬ (5 : Int32) = 1)
      unfold F_X7_wrong F_X7_wrong_14
      rw [h.km, if_neg hk, h.sm]
      have h2' : F_X7_fails 2 (nI s) gm = some gm' := h2
      rw [h2']
      rfl
theorem Sg.fr {gx' gm' : GM} (h : Sg gx gm w) (hx : FrX gx gx') (hm : FrM gm gm') : Sg gx' gm' w := ⟨by rw [hx.1 _ _ (by omega)]; exact h.1, by rw [hm.1 _ _ (by omega)]; exact h.2.1, fun i hi => by rw [hx.2 _ _ (by omega)]; exact h.2.2 i hi⟩
theorem XTx.fr {gx' : GM} (h : XTx gx len tx) (hx : FrX gx gx') : XTx gx' len tx := ⟨h.1, by rw [hx.1 _ _ (by omega)]; exact h.2.1, fun j hj => by rw [hx.1 _ _ (by omega)]; exact h.2.2 j hj⟩
theorem MTx.fr {gm' : GM} (h : MTx gm len tx) (hm : FrM gm gm') : MTx gm' len tx := ⟨h.1, by rw [hm.1 _ _ (by omega)]; exact h.2.1, fun j hj => by rw [hm.1 _ _ (by omega)]; exact h.2.2 j hj⟩
/-- on to the next token -/
theorem s_adv (h : Sy gx gm len tx w t s e) : ∃ gx' gm' t' s' e', F_X4_advance gx = some gx' ∧ F_X7_next gm = some gm' ∧ Sy gx' gm' len tx w t' s' e' ∧ e ≤ s' ∧ Ow PT QT gx gx' ∧ Ow PTm QTm gm gm' := by
  obtain ⟨hX, hM, hg, hkx, hkm, ⟨e1, e2, e3, e4⟩, f1, f2, f3, f4⟩ := h
  obtain ⟨t', s', e', gx', gm', a1, a2, a3, a4, a5, a6, a7, a8, a9, a10, a11⟩ := adv hX hM hkx.1 hkm.1 e2 hg.1 hg.2.1 hg.2.2
  refine ⟨gx', gm', t', s', e', a1, a2, ⟨hX.fr a10, hM.fr a11, hg.fr a10 a11, a3, a4, ⟨a6, a7, a8, a9⟩, ?_, ?_, ?_, ?_⟩, a5, a10.ow, a11.ow⟩
  · rw [a10.1 _ _ (by omega)]; exact f1
  · rw [a11.1 _ _ (by omega)]; exact f2
  · rw [a10.1 _ _ (by omega)]; exact f3
  · rw [a11.1 _ _ (by omega)]; exact f4
theorem m_is (h : Sy gx gm len tx w t s e) {d : Nat} (hd : d ∈ SG true) : (t = Tk.sgn d → F_X7_is (nI d) gm = some 1) ∧ (¬ t = Tk.sgn d → F_X7_is (nI d) gm = some 0) := by
  have hd' := SG_gt d hd
  have hl := h.ln
  unfold F_X7_is F_X7_is_24
  rw [h.km, h.sm, m_sign h.2.1 (by omega), Option.bind_some]
  constructor
  · intro q
    subst q
    have hdm := h.dm
    have h1 : s < len ∧ tx s = d := hdm
    unfold sgn
    rw [if_pos (show kM (Tk.sgn d) = 5 from rfl), if_pos h1.1, h1.2, if_pos rfl]
  · intro q
    rcases t with _ | _ | ⟨w, v⟩ | i | k | c
    · exact if_neg (by decide)
    · exact if_neg (by decide)
    · exact if_neg (by show ¬ (2 : Int32) = 5; decide)
    · exact if_neg (by show ¬ (3 : Int32) = 5; decide)
    · exact if_neg (by show ¬ (4 : Int32) = 5; decide)
    · have hdm := h.dm
      have h1 : s < len ∧ tx s = c := hdm
      have hc := SG_gt c h.dx
      unfold sgn
      rw [if_pos (show kM (some (some (Sum.inr (Sum.inr (Sum.inr c))))) = 5 from rfl), if_pos h1.1, h1.2, if_neg (fun r => q (by have := (nI_eq (by omega) (by omega)).mp r; rw [this]))]
theorem m_isWord (h : Sy gx gm len tx w t s e) {j : Nat} (hj : j < 11) : (t = Tk.wrd j → F_X7_isWord (wM j) gm = some 1) ∧ (¬ t = Tk.wrd j → F_X7_isWord (wM j) gm = some 0) := by
  unfold F_X7_isWord F_X7_isWord_21
  rw [h.km]
  constructor
  · intro q
    subst q
    have hdm : gl gm 0 10 = wM j := h.dm
    rw [if_pos (show kM (Tk.wrd j) = 3 from rfl), hdm, if_pos ((lg_cmp_eq _ _).mpr rfl)]
  · intro q
    rcases t with _ | _ | ⟨w, v⟩ | i | k | c
    · exact if_neg (by decide)
    · exact if_neg (by decide)
    · exact if_neg (by show ¬ (2 : Int32) = 3; decide)
    · have hdm : gl gm 0 10 = wM i := h.dm
      have hi : i < 11 := h.dx
      rw [if_pos (show kM (some (some (Sum.inr (Sum.inl i)))) = 3 from rfl), hdm, if_neg (fun r => q (by rw [wM_ne i hi j hj ((lg_cmp_eq _ _).mp r)]))]
    · exact if_neg (by show ¬ (4 : Int32) = 3; decide)
    · exact if_neg (by show ¬ (5 : Int32) = 3; decide)
end SYNC
