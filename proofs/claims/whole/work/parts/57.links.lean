/-! links: joined, checked, found -/
def sRow (S : St) (u v : Nat) : Nat := ff (fun r => decide (sB S r = u ∧ sK S r = v)) (sR S) 0
def jc (S : St) (r c : Nat) : Nat := if c < sC S (sB S r) then (if sL S (sB S r) c = 0 then sV S r c else if sV S r c = 0 then 0 else sRow S (sL S (sB S r) c - 1) (sV S r c - 1)) else 0
/-- a link to a row that there is not -/
def Bad (S : St) (r c : Nat) : Prop := c < sC S (sB S r) ∧ 0 < sL S (sB S r) c ∧ 0 < sV S r c ∧ sQ S (sL S (sB S r) c - 1) ≤ sV S r c - 1
def lkc (S : St) (r : Nat) : Nat → Nat
  | 0 => 0
  | c + 1 => if c < sC S (sB S r) ∧ 0 < sL S (sB S r) c ∧ 0 < jc S r c then lkc S r c ||| 2 ^ (jc S r c - 1) else lkc S r c
/-- the first bad one of q -/
def FB (S : St) (q k : Nat) : Prop := k < q ∧ Bad S (k / 5) (k % 5) ∧ ∀ j, j < k → ¬ Bad S (j / 5) (j % 5)
def NB (S : St) (q : Nat) : Prop := ∀ j, j < q → ¬ Bad S (j / 5) (j % 5)
theorem FB.uniq {S : St} {q k l : Nat} (h1 : FB S q k) (h2 : FB S q l) : k = l := by
  rcases Nat.lt_trichotomy k l with h | h | h
  · exact absurd h1.2.1 (h2.2.2 k h)
  · exact h
  · exact absurd h2.2.1 (h1.2.2 l h)
theorem NB.nf {S : St} {q k : Nat} (h1 : NB S q) (h2 : FB S q k) : False := h1 k h2.1 h2.2.1
theorem lin5 (r c : Nat) (hc : c < 5) : (r * 5 + c) / 5 = r ∧ (r * 5 + c) % 5 = c := by omega
theorem sRow_none {b : Nat} {gx gm : GM} {S : St} {B : Nat} (h : RRw B b gx gm S) {u v : Nat} (hu : u < sT S) : sRow S u v = 0 ↔ sQ S u ≤ v := by
  unfold sRow
  rw [ff_none]
  constructor
  · intro h1
    rcases Nat.lt_or_ge v (sQ S u) with q | q
    · obtain ⟨r, r1, r2, r3⟩ := h.2.2.2.2 u v hu q
      have := h1 r r1
      simp [r2, r3] at this
    · exact q
  · intro h1 r hr
    apply decide_eq_false
    rintro ⟨r2, r3⟩
    have := (h.2.2.2.1 r hr).2.1
    rw [r2, r3] at this
    omega
section LINKS
variable {b : Nat} {gx0 gm : GM} {S : St}
/-- what a row's look-up needs -/
def RwX (B : Nat) (gx : GM) (S : St) : Prop := sR S ≤ 16 ∧ gi gx B 6 = nI (sR S) ∧ ∀ r, r < sR S → sB S r < 5 ∧ sK S r < 16 ∧ gi gx (B + 6) r = nI (sB S r) ∧ gi gx (B + 7) r = nI (sK S r)
theorem x_rowOf_p {gx : GM} (h : RwX 17 gx S) {u v : Nat} (hu : u < 65536) (hv : v < 2 ^ 31) : F_X2_rowOf_p (nI u) (nI v) gx = some (cd 0 (sRow S u v)) := by
  obtain ⟨h1, h2, h3⟩ := h
  unfold F_X2_rowOf_p sRow
  refine fix_ff0 (fun i => nI i) (sR S) _ (fun k => some (cd 0 k)) (fun i hi kb => ?_) (fun kb => ?_) (by omega)
  · obtain ⟨a1, a2, a3, a4⟩ := h3 i hi
    unfold F_X2_rowOf_p_2B F_X2_rowOf_p_32
    rw [h2, if_neg (nI_ge hi (by omega)), ck_true (inB_nI (by omega) (by decide)), ck_true (inB_nI (by omega) (by decide)), nI_clamp (by omega), show gi gx 23 i = nI (sB S i) from a3, show gi gx 24 i = nI (sK S i) from a4, lt_def, nI_1]
    by_cases c1 : sB S i = u
    · rw [if_pos (by rw [c1])]
      by_cases c2 : sK S i = v
      · rw [if_pos (by rw [c2]), if_pos (decide_eq_true ⟨c1, c2⟩), cdS, Nat.zero_add]
      · rw [if_neg (fun q => c2 ((nI_eq (by omega) hv).mp q)), if_neg (by simp [c2])]
    · rw [if_neg (fun q => c1 ((nI_eq (by omega) (by omega)).mp q)), if_neg (by simp [c1])]
  · unfold F_X2_rowOf_p_2B
    rw [h2, if_pos (nI_le (Nat.le_refl _) (by omega))]
    rfl
theorem x_target_p {gx : GM} {T c : Nat} (hR : RT 17 b gx gm S) (hT : T < sT S) (hc : c < 5) : F_X2_target_p (nI T) (nI c) gx = some (if c < sC S T then cd 0 (sL S T c) else -1) := by
  obtain ⟨a1, a2, a3, a4, a5, a6, a7, a8⟩ := hR.2.2.2.2 T hT
  have h5 := hR.2.1
  unfold F_X2_target_p
  rw [x_hasColumn_p hR.2.1 hR.2.2.1 hT a4 a1 (by omega), Option.bind_some]
  by_cases q : c < sC S T
  · rw [if_pos q, if_pos q, if_neg (by decide), x_slot, Option.bind_some, ck_true (inB_nI (by omega) (by decide)), nI_clamp (by omega)]
    exact congrArg some (a8 c q).2.2.1
  · rw [if_neg q, if_neg q, if_pos rfl]
theorem x_cell_p {gx : GM} (h : RwX 17 gx S) {r c : Nat} (hr : r < sR S) (hc : c < 5) : F_X2_cell_p (nI r) (nI c) gx = some (gi gx 25 (r * 5 + c)) := by
  obtain ⟨h1, h2, h3⟩ := h
  unfold F_X2_cell_p
  rw [if_neg (nI_pos (by omega)), h2, if_neg (nI_ge hr (by omega)), if_neg (nI_pos (by omega)), if_pos (show nI c < 5 from nI_lt hc (by decide)), l5', nI_add, ck_true (inB_nI (by omega) (by decide)), nI_clamp (by omega)]
theorem RA.rwx (h : RA b gx0 gm S) : RwX 17 gx0 S := ⟨h.2.1.1, h.2.1.2.1, fun r hr => by
  obtain ⟨a1, a2, a3, a4, a5, a6, a7⟩ := h.2.1.2.2.2.1 r hr
  have := (h.1.2.2.2.2 _ a1).2.1
  have := h.1.2.1
  have := h.2.1.1
  exact ⟨by omega, by omega, a3, a5⟩⟩
/-- joinLinks, q places done -/
def JX (S : St) (gx0 gx : GM) (q : Nat) : Prop :=
  ((∀ a i, ¬ a = 25 → ¬ (a = 1 ∧ (i = 9 ∨ i = 10)) → gi gx a i = gi gx0 a i) ∧ (∀ a i, gl gx a i = gl gx0 a i) ∧ ∀ j, q ≤ j → gi gx 25 j = gi gx0 25 j) ∧
  ((NB S q ∧ gi gx 1 9 = 0 ∧ gi gx 1 10 = -1 ∧ ∀ r c, c < 5 → r < sR S → r * 5 + c < q → gi gx 25 (r * 5 + c) = cd 0 (jc S r c)) ∨ (∃ k, FB S q k ∧ gi gx 1 9 = 5 ∧ gi gx 1 10 = gi gx0 26 k))
theorem JX.rwx {gx : GM} {q : Nat} (h : JX S gx0 gx q) (h0 : RwX 17 gx0 S) : RwX 17 gx S := ⟨h0.1, by rw [h.1.1 _ _ (by decide) (by omega)]; exact h0.2.1, fun r hr => by
  obtain ⟨a1, a2, a3, a4⟩ := h0.2.2 r hr
  exact ⟨a1, a2, by rw [h.1.1 _ _ (by decide) (by omega)]; exact a3, by rw [h.1.1 _ _ (by decide) (by omega)]; exact a4⟩⟩
theorem JX.rt {gx : GM} {q : Nat} (h : JX S gx0 gx q) (h0 : RT 17 b gx0 gm S) : RT 17 b gx gm S := by
  obtain ⟨h1, h2, h3, h4, h5⟩ := h0
  have ax : ∀ a i, 17 ≤ a → ¬ a = 25 → gi gx a i = gi gx0 a i := fun a i p1 p2 => h.1.1 a i p2 (by omega)
  refine ⟨h1, h2, by rw [ax _ _ (by omega) (by omega)]; exact h3, h4, fun t ht => ?_⟩
  obtain ⟨a1, a2, a3, a4, a5, a6, a7, a8⟩ := h5 t ht
  refine ⟨a1, a2, by rw [h.1.2.1]; exact a3, by rw [ax _ _ (by omega) (by omega)]; exact a4, a5, by rw [ax _ _ (by omega) (by omega)]; exact a6, a7, fun c hc => ?_⟩
  obtain ⟨c1, c2, c3, c4⟩ := a8 c hc
  exact ⟨by rw [h.1.2.1]; exact c1, c2, by rw [ax _ _ (by omega) (by omega)]; exact c3, c4⟩
/-- one place -/
theorem x_join1 (hA : RA b gx0 gm S) {gx : GM} {r c : Nat} (hr : r < sR S) (hc : c < 5) (hJ : JX S gx0 gx (r * 5 + c)) :
    ∃ gx', JX S gx0 gx' (r * 5 + (c + 1)) ∧ ∀ kb2 kb, F_X3_joinLinks_25B kb2 (nI r) (nI (sB S r)) kb (nI c, gx) = kb (nI (c + 1), gx') := by
  have hW := hJ.rwx hA.rwx
  have hT := hJ.rt hA.1
  obtain ⟨w1, w2, w3, w4, w5, w6, w7⟩ := hA.2.1.2.2.2.1 r hr
  have hR16 := hA.2.1.1
  have hT5 := hA.1.2.1
  obtain ⟨l1, l2⟩ := lin5 r c hc
  have raw : gi gx 25 (r * 5 + c) = if c < sC S (sB S r) then cd 0 (sV S r c) else -1 := by
    rw [hJ.1.2.2 _ (Nat.le_refl _)]
    exact (hA.2.2.1 r hr c hc).1
  -- the place stays as it is
  have keep : ¬ Bad S r c → cd 0 (jc S r c) = gi gx 25 (r * 5 + c) → JX S gx0 gx (r * 5 + (c + 1)) := by
    intro hb hj
    refine ⟨⟨hJ.1.1, hJ.1.2.1, fun j hj => hJ.1.2.2 j (by omega)⟩, ?_⟩
    rcases hJ.2 with ⟨n1, n2, n3, n4⟩ | ⟨k, f1, f2, f3⟩
    · refine Or.inl ⟨fun j hj => ?_, n2, n3, fun r' c' hc' hr' hq => ?_⟩
      · by_cases e : j = r * 5 + c
        · rw [e, l1, l2]; exact hb
        · exact n1 j (by omega)
      · by_cases e : r' * 5 + c' = r * 5 + c
        · have e1 : r' = r := by omega
          have e2 : c' = c := by omega
          rw [e1, e2]; exact hj.symm
        · exact n4 r' c' hc' hr' (by omega)
    · exact Or.inr ⟨k, ⟨by have := f1.1; omega, f1.2⟩, f2, f3⟩
  have step : ∀ kb2 kb, F_X3_joinLinks_25B kb2 (nI r) (nI (sB S r)) kb (nI c, gx) = if (if c < sC S (sB S r) then cd 0 (sL S (sB S r) c) else -1) = (-1) then kb (nI (c + 1), gx) else if gi gx 25 (r * 5 + c) = (-1) then kb (nI (c + 1), gx) else (F_X2_rowOf_p (if c < sC S (sB S r) then cd 0 (sL S (sB S r) c) else -1) (gi gx 25 (r * 5 + c)) gx).bind fun r_7 => (F_X3_joinLink (nI r) (nI c) r_7 gx).bind fun g_8 => kb (nI (c + 1), g_8) := by
    intro kb2 kb
    unfold F_X3_joinLinks_25B F_X3_joinLinks_81
    dsimp only
    rw [if_neg (show ¬ (5 : Int32) ≤ nI c from nI_ge (a := c) (b := 5) hc (by decide)), x_target_p hT w1 hc, Option.bind_some, lt_def, x_cell_p hW hr hc, Option.bind_some, lt_def]
    simp only [lt_def, nI_1]
  by_cases c1 : c < sC S (sB S r)
  · obtain ⟨_, cl, _, _⟩ := (hA.1.2.2.2.2 _ w1).2.2.2.2.2.2.2 c c1
    have cv := (w7 c c1).1
    rw [if_pos c1] at raw
    simp only [if_pos c1] at step
    by_cases c2 : sL S (sB S r) c = 0
    · refine ⟨gx, keep (fun q => by have := q.2.1; omega) ?_, fun kb2 kb => by rw [step, if_pos ((cd_m1 (by omega)).mpr c2)]⟩
      unfold jc
      rw [if_pos c1, if_pos c2, raw]
    · by_cases c3 : sV S r c = 0
      · refine ⟨gx, keep (fun q => by have := q.2.2.1; omega) ?_, fun kb2 kb => by rw [step, if_neg (fun q => c2 ((cd_m1 (by omega)).mp q)), raw, c3, cd0, if_pos rfl]⟩
        unfold jc
        rw [if_pos c1, if_neg c2, if_pos c3, raw, c3]
      · obtain ⟨l, hl⟩ : ∃ l, sL S (sB S r) c = l + 1 := ⟨sL S (sB S r) c - 1, by omega⟩
        obtain ⟨v, hv⟩ : ∃ v, sV S r c = v + 1 := ⟨sV S r c - 1, by omega⟩
        have hro := x_rowOf_p hW (u := l) (v := v) (by omega) (by omega)
        have hle := ff_le (fun r => decide (sB S r = l ∧ sK S r = v)) (sR S)
        have eJ : jc S r c = sRow S l v := by
          unfold jc
          rw [if_pos c1, if_neg c2, if_neg c3, hl, hv, Nat.add_sub_cancel, Nat.add_sub_cancel]
        have hsn := sRow_none hA.2.1 (u := l) (v := v) (by omega)
        rw [hl, cdS, Nat.zero_add] at step
        rw [hv, cdS, Nat.zero_add] at raw
        have step2 : ∀ kb2 kb, F_X3_joinLinks_25B kb2 (nI r) (nI (sB S r)) kb (nI c, gx) = (F_X3_joinLink (nI r) (nI c) (cd 0 (sRow S l v)) gx).bind fun g_8 => kb (nI (c + 1), g_8) := by
          intro kb2 kb
          have hv9 : ¬ nI v = -1 := by
            intro q
            have h1 := congrArg (fun x => Int32.toInt x) q
            rw [nI_toInt (by omega), show (-1 : Int32).toInt = -1 by decide] at h1
            omega
          rw [step, if_neg (nI_ne1 (by omega)), raw, if_neg hv9, hro, Option.bind_some]
        by_cases c4 : sRow S l v = 0
        · have hbad : Bad S r c := ⟨c1, by omega, by omega, by rw [hl, hv, Nat.add_sub_cancel, Nat.add_sub_cancel]; exact hsn.mp c4⟩
          rcases hJ.2 with ⟨n1, n2, n3, n4⟩ | ⟨k, f1, f2, f3⟩
          · refine ⟨si (si gx 1 9 5) 1 10 (gi gx0 26 (r * 5 + c)), ⟨⟨fun a i q1 q2 => ?_, fun a i => hJ.1.2.1 a i, fun j hj => ?_⟩, Or.inr ⟨r * 5 + c, ⟨by omega, by rw [l1, l2]; exact hbad, n1⟩, ?_, ?_⟩⟩, fun kb2 kb => ?_⟩
            · rw [gi_si, if_neg (by omega), gi_si, if_neg (by omega)]; exact hJ.1.1 a i q1 q2
            · rw [gi_si, if_neg (by omega), gi_si, if_neg (by omega)]; exact hJ.1.2.2 j (by omega)
            · rw [gi_si, if_neg (by omega), gi_same]
            · rw [gi_same]
            · have e26 : gi gx 26 (r * 5 + c) = gi gx0 26 (r * 5 + c) := hJ.1.1 _ _ (by omega) (by omega)
              rw [step2, c4, cd0]
              unfold F_X3_joinLink F_X4_refuse
              rw [if_pos rfl, x_slot, Option.bind_some, ck_true (inB_nI (by omega) (by decide)), nI_clamp (by omega), if_pos n2, lt_def, lt_def, e26, Option.bind_some, Option.bind_some]
          · refine ⟨gx, ⟨⟨hJ.1.1, hJ.1.2.1, fun j hj => hJ.1.2.2 j (by omega)⟩, Or.inr ⟨k, ⟨by have := f1.1; omega, f1.2⟩, f2, f3⟩⟩, fun kb2 kb => ?_⟩
            rw [step2, c4, cd0]
            unfold F_X3_joinLink F_X4_refuse
            rw [if_pos rfl, x_slot, Option.bind_some, ck_true (inB_nI (by omega) (by decide)), if_neg (by rw [f2]; decide), Option.bind_some, Option.bind_some]
        · have hgood : ¬ Bad S r c := fun q => c4 (hsn.mpr (by have := q.2.2.2; rw [hl, hv, Nat.add_sub_cancel, Nat.add_sub_cancel] at this; exact this))
          have hs16 : sRow S l v ≤ 16 := by unfold sRow; omega
          refine ⟨si gx 25 (r * 5 + c) (cd 0 (sRow S l v)), ⟨⟨fun a i q1 q2 => ?_, fun a i => hJ.1.2.1 a i, fun j hj => ?_⟩, ?_⟩, fun kb2 kb => ?_⟩
          · rw [gi_si, if_neg (by omega)]; exact hJ.1.1 a i q1 q2
          · rw [gi_si, if_neg (by omega)]; exact hJ.1.2.2 j (by omega)
          · rcases hJ.2 with ⟨n1, n2, n3, n4⟩ | ⟨k, f1, f2, f3⟩
            · refine Or.inl ⟨fun j hj => ?_, ?_, ?_, fun r' c' hc' hr' hq => ?_⟩
              · by_cases e : j = r * 5 + c
                · rw [e, l1, l2]; exact hgood
                · exact n1 j (by omega)
              · rw [gi_si, if_neg (by omega)]; exact n2
              · rw [gi_si, if_neg (by omega)]; exact n3
              · by_cases e : r' * 5 + c' = r * 5 + c
                · have e1 : r' = r := by omega
                  have e2 : c' = c := by omega
                  rw [e1, e2, gi_same, eJ]
                · rw [gi_si, if_neg (by omega)]; exact n4 r' c' hc' hr' (by omega)
            · refine Or.inr ⟨k, ⟨by have := f1.1; omega, f1.2⟩, ?_, ?_⟩
              · rw [gi_si, if_neg (by omega)]; exact f2
              · rw [gi_si, if_neg (by omega)]; exact f3
          · rw [step2]
            unfold F_X3_joinLink
            rw [if_neg (fun q => c4 ((cd_m1 (by omega)).mp q)), x_slot, Option.bind_some, ck_true (inB_nI (by omega) (by decide)), nI_clamp (by omega), lt_def, Option.bind_some]
  · rw [if_neg c1] at raw
    simp only [if_neg c1, if_true] at step
    refine ⟨gx, keep (fun q => c1 q.1) ?_, fun kb2 kb => by rw [step]⟩
    unfold jc
    rw [if_neg c1, raw]
    rfl
theorem x_join (hA : RA b gx0 gm S) (h0 : gi gx0 1 9 = 0) (h1 : gi gx0 1 10 = -1) : ∃ gx', JX S gx0 gx' (sR S * 5) ∧ F_X3_joinLinks gx0 = some gx' := by
  have hR16 := hA.2.1.1
  have hl := fix_to (B := F_X3_joinLinks_2B) (I := fun r s => s.1 = nI r ∧ JX S gx0 s.2 (r * 5)) (E := fun s => some s.2) (sR S) (fun r s hr hI => ?_) (fun s hI kb => ?_) (sR S) 0 FU (0, gx0) (by omega) (by show sR S < 70000; omega) ⟨rfl, ⟨fun _ _ _ _ => rfl, fun _ _ => rfl, fun _ _ => rfl⟩, Or.inl ⟨fun j hj => by omega, h0, h1, fun r c _ _ hq => by omega⟩⟩
  · obtain ⟨⟨x, gx'⟩, ⟨_, h2⟩, h3⟩ := hl
    exact ⟨gx', h2, h3⟩
  · obtain ⟨x, gx⟩ := s
    obtain ⟨hx, hJ⟩ := hI
    dsimp only at hx hJ
    subst hx
    have hW := hJ.rwx hA.rwx
    obtain ⟨⟨y, gx'⟩, ⟨hy, hJ'⟩, h3⟩ := fix_toK (B := fun kb2 => F_X3_joinLinks_25B kb2 (nI r) (nI (sB S r))) (I := fun c s => s.1 = nI c ∧ JX S gx0 s.2 (r * 5 + c)) (E := fun kb2 s => kb2 (nI (r + 1), s.2)) 5 (fun c s hc hI => by
      obtain ⟨y, g⟩ := s
      obtain ⟨hy, hJ2⟩ := hI
      dsimp only at hy hJ2
      subst hy
      obtain ⟨g', h4, h5⟩ := x_join1 hA hr hc hJ2
      exact ⟨(nI (c + 1), g'), ⟨rfl, h4⟩, h5⟩) (fun s hI k kb => by
      obtain ⟨y, g⟩ := s
      obtain ⟨hy, hJ2⟩ := hI
      dsimp only at hy
      subst hy
      unfold F_X3_joinLinks_25B
      dsimp only
      rw [if_pos (by decide), lt_def, nI_1]) 5 0 FU (0, gx) rfl (by decide) ⟨rfl, hJ⟩
    refine ⟨(nI (r + 1), gx'), ⟨rfl, ?_⟩, fun kb => ?_⟩
    · have : (r + 1) * 5 = r * 5 + 5 := by omega
      show JX S gx0 gx' ((r + 1) * 5)
      rw [this]; exact hJ'
    · unfold F_X3_joinLinks_2B
      dsimp only
      rw [hW.2.1, if_neg (nI_ge hr (by omega)), ck_true (inB_nI (by omega) (by decide)), nI_clamp (by omega), show gi gx 23 r = nI (sB S r) from (hW.2.2 r hr).2.2.1, lt_def]
      exact h3 kb
  · obtain ⟨x, gx⟩ := s
    obtain ⟨hx, hJ⟩ := hI
    dsimp only at hx hJ
    subst hx
    have hW := hJ.rwx hA.rwx
    unfold F_X3_joinLinks_2B
    dsimp only
    rw [hW.2.1, if_pos (nI_le (Nat.le_refl _) (by omega))]
end LINKS
