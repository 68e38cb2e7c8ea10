/-! the reference's tokens -/
def MTx (g : GM) (len : Nat) (tx : Nat → Nat) : Prop := len ≤ 1200 ∧ gi g 0 3 = nI len ∧ ∀ j, j < len → tx j < 256 ∧ gi g 2 j = sx (tx j)
theorem MTx.si {g : GM} {len k : Nat} {tx : Nat → Nat} {v : Int32} (h : MTx g len tx) (hk : ¬ k = 3) : MTx (si g 0 k v) len tx := ⟨h.1, by rw [gi_si, if_neg (fun q => hk q.2.symm)]; exact h.2.1, fun j hj => by rw [gi_si, if_neg (by simp)]; exact h.2.2 j hj⟩
theorem MTx.sl {g : GM} {len i k : Nat} {tx : Nat → Nat} {v : Int64} (h : MTx g len tx) : MTx (sl g i k v) len tx := h
/-- the sign at a place, 0 behind the end -/
def sgn (len : Nat) (tx : Nat → Nat) (j : Nat) : Nat := if j < len then tx j else 0
section MTOK
variable {g : GM} {len p s : Nat} {tx : Nat → Nat}
theorem m_sign (h : MTx g len tx) {j : Nat} (hj : j ≤ 2000) : F_X7_sign (nI j) g = some (nI (sgn len tx j)) := by
  unfold F_X7_sign sgn
  rw [h.2.1]
  by_cases c : j < len
  · obtain ⟨b1, b2⟩ := h.2.2 j c
    have := h.1
    rw [if_neg (nI_ge c (by omega)), ck_true (inB_nI (by omega) (by decide)), nI_clamp (by omega), b2, sx_255 _ b1, if_pos c]
  · have := h.1
    rw [if_pos (nI_le (by omega) (by omega)), if_neg c]
    rfl
theorem sgn_lt (h : MTx g len tx) (j : Nat) : sgn len tx j < 256 := by
  unfold sgn
  split
  · rename_i c
    exact (h.2.2 j c).1
  · decide
theorem m_isLetter {v : Nat} (hv : v < 256) : (isL v → F_X7_isLetter (nI v) = some 1) ∧ (¬ isL v → F_X7_isLetter (nI v) = some 0) := by
  unfold F_X7_isLetter F_X7_isLetter_16 isL
  simp only [nI_97 v hv, nI_122 v hv]
  constructor
  · intro h
    rw [if_neg (by omega), if_neg (by omega)]
  · intro h
    by_cases c : v < 97
    · rw [if_pos c]
    · rw [if_neg c, if_pos (by omega)]
theorem m_isDigit {v : Nat} (hv : v < 256) : (isD v → F_X7_isDigit (nI v) = some 1) ∧ (¬ isD v → F_X7_isDigit (nI v) = some 0) := by
  unfold F_X7_isDigit F_X7_isDigit_16 isD
  simp only [nI_48 v hv, nI_57 v hv]
  constructor
  · intro h
    rw [if_neg (by omega), if_neg (by omega)]
  · intro h
    by_cases c : v < 48
    · rw [if_pos c]
    · rw [if_neg c, if_pos (by omega)]
theorem m_skip (h : MTx g len tx) (h4 : gi g 0 7 = nI p) (h1 : p ≤ s) (h2 : s ≤ len) (h3 : ∀ j, p ≤ j → j < s → isB (tx j)) (h5 : s < len → ¬ isB (tx s)) : F_X7_next g = F_X7_next_58 (si g 0 6 (nI s)) := by
  have hl := h.1
  unfold F_X7_next
  rw [lt_def, h4]
  refine fix_for (B := F_X7_next_8B) (fun i => si g 0 6 (nI (p + i))) (s - p) (F_X7_next_58 (si g 0 6 (nI s))) (fun i hi kb => ?_) (fun kb => ?_) (s - p) 0 FU (by omega) (by show s - p < 70000; omega)
  · have hM := h.si (k := 6) (v := nI (p + i)) (by decide)
    have e2 : gi (si g 0 6 (nI (p + i))) 0 6 = nI (p + i) := by rw [gi_si, if_pos ⟨rfl, rfl⟩]
    have b1 := (h.2.2 (p + i) (by omega)).1
    unfold F_X7_next_8B F_X7_next_45
    rw [hM.2.1, e2, if_neg (nI_ge (by omega) (by omega)), m_sign hM (by omega), Option.bind_some, Option.bind_some, lt_def, si_si, nI_1, Nat.add_assoc]
    unfold sgn
    rw [if_pos (show p + i < len by omega)]
    rcases h3 (p + i) (by omega) (by omega) with q | q
    · rw [if_pos ((nI_32 _ b1).mpr q)]
    · rw [if_neg (fun r => by have := (nI_32 _ b1).mp r; omega), if_pos ((nI_10 _ b1).mpr q)]
  · rw [show p + (s - p) = s by omega]
    have hM := h.si (k := 6) (v := nI s) (by decide)
    have e2 : gi (si g 0 6 (nI s)) 0 6 = nI s := by rw [gi_si, if_pos ⟨rfl, rfl⟩]
    unfold F_X7_next_8B
    rw [hM.2.1, e2]
    by_cases c : s < len
    · have b1 := (h.2.2 s c).1
      have hnb := h5 c
      unfold isB at hnb
      rw [if_neg (nI_ge (by omega) (by omega)), m_sign hM (by omega), Option.bind_some, Option.bind_some]
      unfold sgn
      rw [if_pos c, if_neg (fun r => hnb (Or.inl ((nI_32 _ b1).mp r))), if_neg (fun r => hnb (Or.inr ((nI_10 _ b1).mp r)))]
    · rw [if_pos (nI_le (by omega) (by omega))]
theorem sgn_nl {e : Nat} (h5 : e < len → ¬ isL (tx e)) : ¬ isL (sgn len tx e) := by
  unfold sgn
  split
  · rename_i c; exact h5 c
  · unfold isL; omega
theorem sgn_nd {e : Nat} (h5 : e < len → ¬ isD (tx e)) : ¬ isD (sgn len tx e) := by
  unfold sgn
  split
  · rename_i c; exact h5 c
  · unfold isD; omega
theorem m_letters {e : Nat} (h : MTx g len tx) (h6 : gi g 0 6 = nI s) (h7 : gi g 0 7 = nI (s + 1)) (h1 : s + 1 ≤ e) (h2 : e ≤ len) (h3 : ∀ j, s ≤ j → j < e → isL (tx j)) (h5 : e < len → ¬ isL (tx e)) :
    fixN F_X7_next_119B FU g = F_X7_next_199 (sl (si g 0 7 (nI e)) 0 10 (lN (w256 tx s (min (e - s) 8)))) := by
  have hl := h.1
  have := fix_for (B := F_X7_next_119B) (fun i => si g 0 7 (nI (s + 1 + i))) (e - (s + 1)) (F_X7_next_199 (sl (si g 0 7 (nI e)) 0 10 (lN (w256 tx s (min (e - s) 8))))) (fun i hi kb => ?_) (fun kb => ?_) (e - (s + 1)) 0 FU (by omega) (by show e - (s + 1) < 70000; omega)
  · rw [← this]
    congr 1
    exact (si_same (by rw [h7, Nat.add_zero])).symm
  · have hM := h.si (k := 7) (v := nI (s + 1 + i)) (by decide)
    have e2 : gi (si g 0 7 (nI (s + 1 + i))) 0 7 = nI (s + 1 + i) := by rw [gi_si, if_pos ⟨rfl, rfl⟩]
    have hL := h3 (s + 1 + i) (by omega) (by omega)
    unfold F_X7_next_119B
    rw [e2, m_sign hM (by omega), Option.bind_some]
    unfold sgn
    rw [if_pos (show s + 1 + i < len by omega), (m_isLetter (h.2.2 _ (by omega)).1).1 hL, Option.bind_some, if_neg (by decide), lt_def, si_si, nI_1]
    rfl
  · rw [show s + 1 + (e - (s + 1)) = e by omega]
    have hM := h.si (k := 7) (v := nI e) (by decide)
    have e2 : gi (si g 0 7 (nI e)) 0 7 = nI e := by rw [gi_si, if_pos ⟨rfl, rfl⟩]
    unfold F_X7_next_119B
    rw [e2, m_sign hM (by omega), Option.bind_some, (m_isLetter (sgn_lt h e)).2 (sgn_nl h5), Option.bind_some, if_pos rfl, lt_def, lt_def]
    have e6 : gi (sl (si g 0 7 (nI e)) 0 10 0) 0 6 = nI s := by rw [gi_sl, gi_si, if_neg (by decide)]; exact h6
    rw [e6]
    refine fix_for (B := F_X7_next_156B) (fun i => (nI (s + i), sl (si g 0 7 (nI e)) 0 10 (lN (w256 tx s i)))) (min (e - s) 8) _ (fun i hi kb2 => ?_) (fun kb2 => ?_) (min (e - s) 8) 0 FU (by omega) (by show min (e - s) 8 < 70000; omega)
    · have hM2 := hM.sl (i := 0) (k := 10) (v := lN (w256 tx s i))
      have f6 : gi (sl (si g 0 7 (nI e)) 0 10 (lN (w256 tx s i))) 0 6 = nI s := by rw [gi_sl, gi_si, if_neg (by decide)]; exact h6
      have f7 : gi (sl (si g 0 7 (nI e)) 0 10 (lN (w256 tx s i))) 0 7 = nI e := by rw [gi_sl, gi_si, if_pos ⟨rfl, rfl⟩]
      have f10 : gl (sl (si g 0 7 (nI e)) 0 10 (lN (w256 tx s i))) 0 10 = lN (w256 tx s i) := by rw [gl_sl, if_pos ⟨rfl, rfl⟩]
      have hb := (h.2.2 (s + i) (by omega)).1
      unfold F_X7_next_156B
      dsimp only
      rw [f6, f7, f10, if_neg (nI_ge (by omega) (by omega)), show nI s + 8 = nI (s + 8) from nI_add s 8, if_neg (nI_ge (by omega) (by omega)), m_sign hM2 (by omega), Option.bind_some, lt_def, lt_def, nI_1, sl_sl]
      unfold sgn
      rw [if_pos (show s + i < len by omega), nI_l (by omega), lshl8 _ _ hb]
      rfl
    · have f6 : gi (sl (si g 0 7 (nI e)) 0 10 (lN (w256 tx s (min (e - s) 8)))) 0 6 = nI s := by rw [gi_sl, gi_si, if_neg (by decide)]; exact h6
      have f7 : gi (sl (si g 0 7 (nI e)) 0 10 (lN (w256 tx s (min (e - s) 8)))) 0 7 = nI e := by rw [gi_sl, gi_si, if_pos ⟨rfl, rfl⟩]
      unfold F_X7_next_156B
      dsimp only
      rw [f6, f7, show nI s + 8 = nI (s + 8) from nI_add s 8]
      by_cases c : e - s ≤ 8
      · rw [if_pos (nI_le (show e ≤ s + min (e - s) 8 by omega) (by omega))]
      · rw [if_neg (nI_ge (show s + min (e - s) 8 < e by omega) (by omega)), if_pos (nI_le (show s + 8 ≤ s + min (e - s) 8 by omega) (by omega))]
theorem si_swap {g : GM} {i k k' : Nat} {v w : Int32} (h : ¬ k = k') : si (si g i k v) i k' w = si (si g i k' w) i k v := by
  obtain ⟨a, b⟩ := g
  show ((fun x y => if x = i ∧ y = k' then w else if x = i ∧ y = k then v else a x y), b) = ((fun x y => if x = i ∧ y = k then v else if x = i ∧ y = k' then w else a x y), b)
  congr 1
  funext x y
  by_cases c1 : x = i ∧ y = k'
  · rw [if_pos c1, if_neg (fun q => h (q.2.symm.trans c1.2)), if_pos c1]
  · rw [if_neg c1, if_neg c1]
theorem m_digits {e : Nat} (h : MTx g len tx) (h6 : gi g 0 6 = nI s) (h7 : gi g 0 7 = nI s) (h9 : gi g 0 9 = 0) (h1 : s ≤ e) (h2 : e ≤ len) (h3 : ∀ j, s ≤ j → j < e → isD (tx j)) (h5 : e < len → ¬ isD (tx e)) :
    fixN F_X7_next_259B FU g = some (si (si (si g 0 9 (nI (dv tx s (min (e - s) 6)))) 0 7 (nI e)) 0 8 (if 6 < e - s then 1 else if sgn len tx e < 97 ∨ 122 < sgn len tx e then 4 else 1)) := by
  have hl := h.1
  have := fix_for (B := F_X7_next_259B) (fun i => si (si g 0 9 (nI (dv tx s (min i 6)))) 0 7 (nI (s + i))) (e - s) (some (si (si (si g 0 9 (nI (dv tx s (min (e - s) 6)))) 0 7 (nI e)) 0 8 (if 6 < e - s then 1 else if sgn len tx e < 97 ∨ 122 < sgn len tx e then 4 else 1))) (fun i hi kb => ?_) (fun kb => ?_) (e - s) 0 FU (by omega) (by show e - s < 70000; omega)
  · rw [← this]
    congr 1
    rw [show si g 0 9 (nI (dv tx s (min 0 6))) = g from si_same h9]
    exact (si_same (by rw [h7, Nat.add_zero])).symm
  · have hM : MTx (si (si g 0 9 (nI (dv tx s (min i 6)))) 0 7 (nI (s + i))) len tx := (h.si (by decide)).si (by decide)
    have e7 : gi (si (si g 0 9 (nI (dv tx s (min i 6)))) 0 7 (nI (s + i))) 0 7 = nI (s + i) := by rw [gi_si, if_pos ⟨rfl, rfl⟩]
    have e6 : gi (si (si g 0 9 (nI (dv tx s (min i 6)))) 0 7 (nI (s + i))) 0 6 = nI s := by rw [gi_si, if_neg (by decide), gi_si, if_neg (by decide)]; exact h6
    have e9 : gi (si (si g 0 9 (nI (dv tx s (min i 6)))) 0 7 (nI (s + i))) 0 9 = nI (dv tx s (min i 6)) := by rw [gi_si, if_neg (by decide), gi_si, if_pos ⟨rfl, rfl⟩]
    have hD := h3 (s + i) (by omega) (by omega)
    have hb := (h.2.2 (s + i) (by omega)).1
    have hs : sgn len tx (s + i) = tx (s + i) := by unfold sgn; rw [if_pos (by omega)]
    unfold F_X7_next_259B F_X7_next_310
    rw [e7, e6, e9, m_sign hM (by omega), Option.bind_some, hs, (m_isDigit hb).1 hD, Option.bind_some, if_neg (by decide), nI_sub (show s ≤ s + i by omega), Nat.add_sub_cancel_left, Option.bind_some, lt_def, lt_def, lt_def, si_si]
    unfold isD at hD
    by_cases c : 6 ≤ i
    · rw [if_pos (show (6 : Int32) ≤ nI i from nI_le (a := 6) c (by omega)), nI_1, Nat.min_eq_right c, Nat.min_eq_right (show 6 ≤ i + 1 by omega)]
      rfl
    · rw [if_neg (show ¬ (6 : Int32) ≤ nI i from nI_ge (a := i) (b := 6) (by omega) (by decide)), si_swap (k := 7) (k' := 9) (by decide), si_si, gi_si, if_pos ⟨rfl, rfl⟩, nI_1, si_si, Nat.min_eq_left (show i ≤ 6 by omega), Nat.min_eq_left (show i + 1 ≤ 6 by omega), show (10 : Int32) = nI 10 from rfl, nI_mul, nI_add, show (48 : Int32) = nI 48 from rfl, nI_sub (show 48 ≤ 10 * dv tx s i + tx (s + i) by omega)]
      rw [show 10 * dv tx s i + tx (s + i) - 48 = dv tx s (i + 1) by simp only [dv]; omega]
      rfl
  · rw [show s + (e - s) = e by omega]
    have hM : MTx (si (si g 0 9 (nI (dv tx s (min (e - s) 6)))) 0 7 (nI e)) len tx := (h.si (by decide)).si (by decide)
    have e7 : gi (si (si g 0 9 (nI (dv tx s (min (e - s) 6)))) 0 7 (nI e)) 0 7 = nI e := by rw [gi_si, if_pos ⟨rfl, rfl⟩]
    have e6 : gi (si (si g 0 9 (nI (dv tx s (min (e - s) 6)))) 0 7 (nI e)) 0 6 = nI s := by rw [gi_si, if_neg (by decide), gi_si, if_neg (by decide)]; exact h6
    unfold F_X7_next_259B F_X7_next_352 F_X7_next_357
    rw [e7, e6, m_sign hM (by omega), Option.bind_some, (m_isDigit (sgn_lt h e)).2 (sgn_nd h5), Option.bind_some, if_pos rfl, nI_sub h1, Option.bind_some]
    simp only [show (6 : Int32) = nI 6 from rfl, nI_ltI (show 6 < 2 ^ 31 by decide) (show e - s < 2 ^ 31 by omega), lt_def]
    by_cases c : 6 < e - s
    · rw [if_pos c, if_pos c]
    · rw [if_neg c, if_neg c]
      by_cases c2 : isL (sgn len tx e)
      · rw [(m_isLetter (sgn_lt h e)).1 c2, Option.bind_some, if_neg (by decide)]
        unfold isL at c2
        rw [if_neg (by omega)]
      · rw [(m_isLetter (sgn_lt h e)).2 c2, Option.bind_some, if_pos rfl]
        unfold isL at c2
        rw [if_pos (by omega)]
end MTOK
