/-! reading a store: a column -/
def TgX (g g' : GM) : Prop := ∀ b, gi g' 1 b = gi g 1 b ∧ gi g' 2 b = gi g 2 b ∧ gl g' 1 b = gl g 1 b ∧ gl g' 3 b = gl g 3 b
def TgM (g g' : GM) : Prop := ∀ b, (2 < b → b < 12 → gi g' 0 b = gi g 0 b) ∧ gi g' 2 b = gi g 2 b ∧ gl g' 0 b = gl g 0 b
theorem TgX.rf (g : GM) : TgX g g := fun _ => ⟨rfl, rfl, rfl, rfl⟩
theorem TgM.rf (g : GM) : TgM g g := fun _ => ⟨fun _ _ => rfl, rfl, rfl⟩
theorem TgX.si {g g' : GM} {a k : Nat} {v : Int32} (h : TgX g g') (h1 : ¬ a = 1) (h2 : ¬ a = 2) : TgX g (si g' a k v) := fun b => ⟨by rw [gi_si, if_neg (by omega)]; exact (h b).1, by rw [gi_si, if_neg (by omega)]; exact (h b).2.1, (h b).2.2.1, (h b).2.2.2⟩
theorem TgX.sl {g g' : GM} {a k : Nat} {v : Int64} (h : TgX g g') (h1 : ¬ a = 1) (h2 : ¬ a = 3) : TgX g (sl g' a k v) := fun b => ⟨(h b).1, (h b).2.1, by rw [gl_sl, if_neg (by omega)]; exact (h b).2.2.1, by rw [gl_sl, if_neg (by omega)]; exact (h b).2.2.2⟩
theorem TgM.si {g g' : GM} {a k : Nat} {v : Int32} (h : TgM g g') (h1 : ¬ a = 0 ∨ k < 3 ∨ 12 ≤ k) (h2 : ¬ a = 2) : TgM g (si g' a k v) := fun b => ⟨fun p q => by rw [gi_si, if_neg (by omega)]; exact (h b).1 p q, by rw [gi_si, if_neg (by omega)]; exact (h b).2.1, (h b).2.2⟩
theorem TgM.sl {g g' : GM} {a k : Nat} {v : Int64} (h : TgM g g') (h1 : ¬ a = 0) : TgM g (sl g' a k v) := fun b => ⟨(h b).1, (h b).2.1, by rw [gl_sl, if_neg (by omega)]; exact (h b).2.2⟩
section TG
variable {gx gm gx' gm' : GM} {len : Nat} {tx : Nat → Nat} {w : Bool} {t : Tk} {s e : Nat}
theorem Sy.tg (h : Sy gx gm len tx w t s e) (hx : TgX gx gx') (hm : TgM gm gm') : Sy gx' gm' len tx w t s e := by
  obtain ⟨⟨a1, a2, a3⟩, ⟨b1, b2, b3⟩, ⟨c1, c2, c3⟩, ⟨d1, d2, d3, d4⟩, ⟨e1, e2, e3, e4⟩, f, g1, g2, g3, g4⟩ := h
  refine ⟨⟨a1, by rw [(hx _).1]; exact a2, fun j hj => by rw [(hx _).2.1]; exact a3 j hj⟩, ⟨b1, by rw [(hm _).1 (by omega) (by omega)]; exact b2, fun j hj => by rw [(hm _).2.1]; exact b3 j hj⟩, ⟨by rw [(hx _).1]; exact c1, by rw [(hm _).1 (by omega) (by omega)]; exact c2, fun i hi => by rw [(hx _).2.2.2]; exact c3 i hi⟩, ⟨by rw [(hx _).1]; exact d1, by rw [(hx _).1]; exact d2, by rw [(hx _).1]; exact d3, ?_⟩, ⟨by rw [(hm _).1 (by omega) (by omega)]; exact e1, by rw [(hm _).1 (by omega) (by omega)]; exact e2, by rw [(hm _).1 (by omega) (by omega)]; exact e3, ?_⟩, f, by rw [(hx _).1]; exact g1, by rw [(hm _).1 (by omega) (by omega)]; exact g2, by rw [(hx _).1]; exact g3, by rw [(hm _).1 (by omega) (by omega)]; exact g4⟩
  · rcases t with _ | _ | ⟨w, v⟩ | i | k | c
    · trivial
    · trivial
    · exact ⟨by rw [(hx _).2.2.1]; exact d4.1, d4.2⟩
    · exact d4
    · exact ⟨by rw [(hx _).1]; exact d4.1, d4.2⟩
    · exact d4
  · rcases t with _ | _ | ⟨w, v⟩ | i | k | c
    · trivial
    · trivial
    · exact (hm _).2.2.trans e4
    · exact (hm _).2.2.trans e4
    · exact ((hm _).1 (by omega) (by omega)).trans e4
    · exact e4
theorem Fa.tg (h : Fa gx gm) (hx : TgX gx gx') (hm : TgM gm gm') : Fa gx' gm' := by
  obtain ⟨⟨k, p, h1, h2, h3, h4, h5, h6⟩, len, tx, w, ⟨b1, b2, b3⟩, ⟨s, s1, s2⟩, q, ⟨a1, a2, a3⟩, a4, a5, a6, a7⟩ := h
  exact ⟨⟨k, p, h1, h2, by rw [(hx _).1]; exact h3, by rw [(hm _).1 (by omega) (by omega)]; exact h4, by rw [(hx _).1]; exact h5, by rw [(hm _).1 (by omega) (by omega)]; exact h6⟩, len, tx, w, ⟨b1, by rw [(hm _).1 (by omega) (by omega)]; exact b2, fun j hj => by rw [(hm _).2.1]; exact b3 j hj⟩, ⟨s, s1, by rw [(hm _).1 (by omega) (by omega)]; exact s2⟩, q, ⟨a1, by rw [(hx _).1]; exact a2, fun j hj => by rw [(hx _).2.1]; exact a3 j hj⟩, by rw [(hx _).1]; exact a4, a5, by rw [(hx _).1]; exact a6, fun i hi => by rw [(hx _).2.2.2]; exact a7 i hi⟩
theorem s_take (h : Sy gx gm len tx w t s e) {d : Nat} (hd : d ∈ SG true) : ∃ gx' gm' r, F_X4_take (nI d) gx = some (r, gx') ∧ F_X7_is (nI d) gm = some r ∧ F_X7_must r gm = some gm' ∧ ((r = 1 ∧ t = Tk.sgn d ∧ ∃ t' s' e', Sy gx' gm' len tx w t' s' e' ∧ e ≤ s') ∨ (r = 0 ∧ ¬ t = Tk.sgn d ∧ Fa gx' gm')) ∧ Ow PT QT gx gx' ∧ Ow PTm QTm gm gm' := by
  by_cases c : t = Tk.sgn d
  · obtain ⟨gx', gm', t', s', e', h1, h2, h3, h4, h5, h6⟩ := s_adv h
    refine ⟨gx', gm', 1, ?_, (m_is h hd).1 c, ?_, Or.inl ⟨rfl, c, t', s', e', h3, h4⟩, h5, h6⟩
    · unfold F_X4_take
      rw [if_pos h.f0x, h.kx, if_pos ((k_sgn h.dx hd).mpr c), h1, Option.bind_some]
    · unfold F_X7_must
      rw [m_good h.f0m, Option.bind_some, if_neg (by decide), if_neg (by decide), h2, Option.bind_some]
  · obtain ⟨gx', gm', h1, h2, h3, h4, h5⟩ := s_wrong h
    refine ⟨gx', gm', 0, ?_, (m_is h hd).2 c, ?_, Or.inr ⟨rfl, c, h3⟩, h4, h5⟩
    · unfold F_X4_take
      rw [if_pos h.f0x, h.kx, if_neg (fun q => c ((k_sgn h.dx hd).mp q)), h1, Option.bind_some]
    · unfold F_X7_must
      rw [m_good h.f0m, Option.bind_some, if_neg (by decide), if_pos rfl, h2, Option.bind_some]
theorem s_takeW (h : Sy gx gm len tx w t s e) {j : Nat} (hj : j < 11) : ∃ gx' gm' r, F_X4_take (nI (4 + j)) gx = some (r, gx') ∧ F_X7_isWord (wM j) gm = some r ∧ F_X7_must r gm = some gm' ∧ ((r = 1 ∧ t = Tk.wrd j ∧ ∃ t' s' e', Sy gx' gm' len tx w t' s' e' ∧ e ≤ s') ∨ (r = 0 ∧ ¬ t = Tk.wrd j ∧ Fa gx' gm')) ∧ Ow PT QT gx gx' ∧ Ow PTm QTm gm gm' := by
  by_cases c : t = Tk.wrd j
  · obtain ⟨gx', gm', t', s', e', h1, h2, h3, h4, h5, h6⟩ := s_adv h
    refine ⟨gx', gm', 1, ?_, (m_isWord h hj).1 c, ?_, Or.inl ⟨rfl, c, t', s', e', h3, h4⟩, h5, h6⟩
    · unfold F_X4_take
      rw [if_pos h.f0x, h.kx, if_pos ((k_wrd h.dx hj).mpr c), h1, Option.bind_some]
    · unfold F_X7_must
      rw [m_good h.f0m, Option.bind_some, if_neg (by decide), if_neg (by decide), h2, Option.bind_some]
  · obtain ⟨gx', gm', h1, h2, h3, h4, h5⟩ := s_wrong h
    refine ⟨gx', gm', 0, ?_, (m_isWord h hj).2 c, ?_, Or.inr ⟨rfl, c, h3⟩, h4, h5⟩
    · unfold F_X4_take
      rw [if_pos h.f0x, h.kx, if_neg (fun q => c ((k_wrd h.dx hj).mp q)), h1, Option.bind_some]
    · unfold F_X7_must
      rw [m_good h.f0m, Option.bind_some, if_neg (by decide), if_pos rfl, h2, Option.bind_some]
/-- a name at hand -/
theorem Sy.nam {wd v : Int64} (h : Sy gx gm len tx w (Tk.nam wd v) s e) : gi gx 1 5 = 2 ∧ gi gm 0 8 = 2 ∧ gl gx 1 8 = wd ∧ gl gm 0 10 = v ∧ NR wd v := ⟨h.kx, h.km, h.dx.1, h.dm, h.dx.2⟩
theorem Sy.num {k : Nat} (h : Sy gx gm len tx w (Tk.num k) s e) : gi gx 1 5 = 3 ∧ gi gm 0 8 = 4 ∧ gi gx 1 7 = nI k ∧ gi gm 0 9 = nI k ∧ k < 1000000 := ⟨h.kx, h.km, h.dx.1, h.dm, h.dx.2⟩
theorem Sy.nnam (h : Sy gx gm len tx w t s e) (hn : ∀ wd v, ¬ t = Tk.nam wd v) : ¬ gi gx 1 5 = 2 ∧ ¬ gi gm 0 8 = 2 := by
  refine ⟨fun q => ?_, fun q => ?_⟩
  · rw [h.kx] at q
    obtain ⟨a, b, c⟩ := (k_nam h.dx).mp q
    exact hn a b c
  · rw [h.km] at q
    rcases t with _ | _ | ⟨w, v⟩ | i | k | c
    · exact absurd q (by decide)
    · exact absurd q (by decide)
    · exact hn w v rfl
    · exact absurd q (by show ¬ (3 : Int32) = 2; decide)
    · exact absurd q (by show ¬ (4 : Int32) = 2; decide)
    · exact absurd q (by show ¬ (5 : Int32) = 2; decide)
theorem Sy.nnum (h : Sy gx gm len tx w t s e) (hn : ∀ k, ¬ t = Tk.num k) : ¬ gi gx 1 5 = 3 ∧ ¬ gi gm 0 8 = 4 := by
  refine ⟨fun q => ?_, fun q => ?_⟩
  · rw [h.kx] at q
    obtain ⟨a, c⟩ := (k_num h.dx).mp q
    exact hn a c
  · rw [h.km] at q
    rcases t with _ | _ | ⟨w, v⟩ | i | k | c
    · exact absurd q (by decide)
    · exact absurd q (by decide)
    · exact absurd q (by show ¬ (2 : Int32) = 4; decide)
    · exact absurd q (by show ¬ (3 : Int32) = 4; decide)
    · exact hn k rfl
    · exact absurd q (by show ¬ (5 : Int32) = 4; decide)
theorem Tk.isNam (t : Tk) : (∃ wd v, t = Tk.nam wd v) ∨ ∀ wd v, ¬ t = Tk.nam wd v := by
  rcases t with _ | _ | ⟨w, v⟩ | i | k | c
  · exact Or.inr (fun _ _ q => by cases q)
  · exact Or.inr (fun _ _ q => by cases q)
  · exact Or.inl ⟨w, v, rfl⟩
  · exact Or.inr (fun _ _ q => by cases q)
  · exact Or.inr (fun _ _ q => by cases q)
  · exact Or.inr (fun _ _ q => by cases q)
theorem Tk.isNum (t : Tk) : (∃ k, t = Tk.num k) ∨ ∀ k, ¬ t = Tk.num k := by
  rcases t with _ | _ | ⟨w, v⟩ | i | k | c
  · exact Or.inr (fun _ q => by cases q)
  · exact Or.inr (fun _ q => by cases q)
  · exact Or.inr (fun _ q => by cases q)
  · exact Or.inr (fun _ q => by cases q)
  · exact Or.inl ⟨k, rfl⟩
  · exact Or.inr (fun _ q => by cases q)
end TG
/-! all of a store as it is read -/
def RA (b : Nat) (gx gm : GM) (S : St) : Prop := RT 17 b gx gm S ∧ RRw 17 b gx gm S ∧ RC 17 b gx gm S
theorem RA.ag {b : Nat} {gx gm gx' gm' : GM} {S : St} (h : RA b gx gm S) (hx : AgX 17 gx gx') (hm : AgM b gm gm') : RA b gx' gm' S := ⟨h.1.ag hx hm, h.2.1.ag h.1 hx hm, h.2.2.ag h.2.1.1 hx hm⟩
theorem RA.ow {b : Nat} {gx gm gx' gm' : GM} {S : St} (h : RA b gx gm S) (hx : Ow PT QT gx gx') (hm : Ow PTm QTm gm gm') : RA b gx' gm' S := h.ag (hx.agX (by decide)) hm.agM
def PSx (a b : Nat) : Prop := (a = 1 ∧ 4 ≤ b ∧ b ≤ 10) ∨ (17 ≤ a ∧ a ≤ 27)
def QSx (a b : Nat) : Prop := (a = 1 ∧ b = 8) ∨ (17 ≤ a ∧ a ≤ 27)
def PSm (k a b : Nat) : Prop := (a = 0 ∧ 4 ≤ b ∧ b ≤ 10) ∨ BKm k a b
def QSm (k a b : Nat) : Prop := (a = 0 ∧ b = 10) ∨ BKm k a b
theorem Ow.psx {g g' : GM} (h : Ow PT QT g g') : Ow PSx QSx g g' := h.mono (fun a b q => Or.inl q) (fun a b q => Or.inl q)
theorem Ow.psm {k : Nat} {g g' : GM} (h : Ow PTm QTm g g') : Ow (PSm k) (QSm k) g g' := h.mono (fun a b q => Or.inl q) (fun a b q => Or.inl q)
def sAddC (S : St) (T l : Nat) : St := (S.1, (fun t => if t = T then sC S T + 1 else sC S t, sQ S, fun t c => if t = T ∧ c = sC S T then l else sL S t c), S.2.2)
theorem addC {b T l : Nat} {gx gm gx' gm' : GM} {S : St} {w v : Int64} (h : RA b gx gm S) (hT : T < sT S) (hc : sC S T < 5) (hl : l ≤ sT S) (hno : ∀ r, r < sR S → ¬ sB S r = T) (hn : NR w v)
    (x1 : gl gx' 21 (T * 5 + sC S T) = w) (x2 : gi gx' 22 (T * 5 + sC S T) = cd 0 l) (x3 : gi gx' 19 T = nI (sC S T + 1)) (x4 : ∀ a i, ¬ (a = 22 ∧ i = T * 5 + sC S T) → ¬ (a = 19 ∧ i = T) → 17 ≤ a → a ≤ 27 → gi gx' a i = gi gx a i) (x5 : ∀ a i, ¬ (a = 21 ∧ i = T * 5 + sC S T) → 17 ≤ a → a ≤ 27 → gl gx' a i = gl gx a i)
    (y1 : gl gm' 4 (5 * (5 * b + T) + sC S T) = v) (y2 : gi gm' 7 (5 * (5 * b + T) + sC S T) = cd (5 * b) l) (y3 : gi gm' 5 (5 * b + T) = nI (sC S T + 1)) (y4 : ∀ a i, ¬ (a = 7 ∧ i = 5 * (5 * b + T) + sC S T) → ¬ (a = 5 ∧ i = 5 * b + T) → 3 ≤ a → a ≤ 13 → gi gm' a i = gi gm a i) (y5 : ∀ a i, ¬ (a = 4 ∧ i = 5 * (5 * b + T) + sC S T) → 3 ≤ a → a ≤ 13 → gl gm' a i = gl gm a i) : RA b gx' gm' (sAddC S T l) := by
  obtain ⟨⟨h1, h2, h3, h4, h5⟩, ⟨r1, r2, r3, r4, r5⟩, ⟨q1, q2⟩⟩ := h
  have eC : ∀ t, ¬ t = T → sC (sAddC S T l) t = sC S t := fun t ht => if_neg ht
  have eL : ∀ t c, ¬ (t = T ∧ c = sC S T) → sL (sAddC S T l) t c = sL S t c := fun t c ht => if_neg ht
  refine ⟨⟨h1, h2, ?_, ?_, fun t ht => ?_⟩, ⟨r1, ?_, ?_, fun r hr => ?_, r5⟩, ⟨fun r hr c hc => ?_, fun r z1 z2 c hc => ?_⟩⟩
  · rw [x4 _ _ (by omega) (by omega) (by omega) (by omega)]; exact h3
  · rw [y4 _ _ (by omega) (by omega) (by omega) (by omega)]; exact h4
  · obtain ⟨a1, a2, a3, a4, a5, a6, a7, a8⟩ := h5 t ht
    have hcm : ∀ c, ¬ (t = T ∧ c = sC S T) → c < 5 → Cm 17 b gx gm S t c → Cm 17 b gx' gm' (sAddC S T l) t c := by
      rintro c hne hc5 ⟨c1, c2, c3, c4⟩
      refine ⟨?_, ?_, ?_, ?_⟩
      · rw [x5 _ _ (by omega) (by omega) (by omega), y5 _ _ (by omega) (by omega) (by omega)]; exact c1
      · rw [eL _ _ hne]; exact c2
      · rw [eL _ _ hne, x4 _ _ (by omega) (by omega) (by omega) (by omega)]; exact c3
      · rw [eL _ _ hne, y4 _ _ (by omega) (by omega) (by omega) (by omega)]; exact c4
    by_cases e : t = T
    · subst e
      have e1 : sC (sAddC S t l) t = sC S t + 1 := if_pos rfl
      refine ⟨by rw [e1]; omega, a2, ?_, ?_, ?_, ?_, ?_, fun c hc' => ?_⟩
      · rw [x5 _ _ (by omega) (by omega) (by omega), y5 _ _ (by omega) (by omega) (by omega)]; exact a3
      · rw [e1]; exact x3
      · rw [e1]; exact y3
      · rw [x4 _ _ (by omega) (by omega) (by omega) (by omega)]; exact a6
      · rw [y4 _ _ (by omega) (by omega) (by omega) (by omega)]; exact a7
      · rw [e1] at hc'
        by_cases e2 : c = sC S t
        · subst e2
          have e3 : sL (sAddC S t l) t (sC S t) = l := if_pos ⟨rfl, rfl⟩
          exact ⟨by rw [x1, y1]; exact hn, by rw [e3]; exact hl, by rw [e3]; exact x2, by rw [e3]; exact y2⟩
        · exact hcm c (by omega) (by omega) (a8 c (by omega))
    · refine ⟨by rw [eC t e]; exact a1, a2, ?_, ?_, ?_, ?_, ?_, fun c hc' => ?_⟩
      · rw [x5 _ _ (by omega) (by omega) (by omega), y5 _ _ (by omega) (by omega) (by omega)]; exact a3
      · rw [eC t e, x4 _ _ (by omega) (by omega) (by omega) (by omega)]; exact a4
      · rw [eC t e, y4 _ _ (by omega) (by omega) (by omega) (by omega)]; exact a5
      · rw [x4 _ _ (by omega) (by omega) (by omega) (by omega)]; exact a6
      · rw [y4 _ _ (by omega) (by omega) (by omega) (by omega)]; exact a7
      · rw [eC t e] at hc'
        exact hcm c (by omega) (by omega) (a8 c hc')
  · rw [x4 _ _ (by omega) (by omega) (by omega) (by omega)]; exact r2
  · rw [y4 _ _ (by omega) (by omega) (by omega) (by omega)]; exact r3
  · obtain ⟨a1, a2, a3, a4, a5, a6, a7⟩ := r4 r hr
    refine ⟨a1, a2, ?_, ?_, ?_, ?_, fun c hc' => ?_⟩
    · rw [x4 _ _ (by omega) (by omega) (by omega) (by omega)]; exact a3
    · rw [y4 _ _ (by omega) (by omega) (by omega) (by omega)]; exact a4
    · rw [x4 _ _ (by omega) (by omega) (by omega) (by omega)]; exact a5
    · rw [y4 _ _ (by omega) (by omega) (by omega) (by omega)]; exact a6
    · have e1 : sC (sAddC S T l) (sB (sAddC S T l) r) = sC S (sB S r) := eC _ (hno r hr)
      rw [e1] at hc'
      rw [y4 _ _ (by omega) (by omega) (by omega) (by omega)]
      exact a7 c hc'
  · have e1 : sC (sAddC S T l) (sB (sAddC S T l) r) = sC S (sB S r) := eC _ (hno r hr)
    rw [e1, x4 _ _ (by omega) (by omega) (by omega) (by omega), x4 _ _ (by omega) (by omega) (by omega) (by omega), y4 _ _ (by omega) (by omega) (by omega) (by omega)]
    exact q1 r hr c hc
  · rw [x4 _ _ (by omega) (by omega) (by omega) (by omega)]
    exact q2 r z1 z2 c hc
