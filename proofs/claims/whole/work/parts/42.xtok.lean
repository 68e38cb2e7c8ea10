/-! the class's tokens -/
def XTx (g : GM) (len : Nat) (tx : Nat → Nat) : Prop := len ≤ 1200 ∧ gi g 1 2 = nI len ∧ ∀ j, j < len → tx j < 256 ∧ gi g 2 j = sx (tx j)
def isB (v : Nat) : Prop := v = 32 ∨ v = 10
theorem XTx.si {g : GM} {len k : Nat} {tx : Nat → Nat} {v : Int32} (h : XTx g len tx) (hk : ¬ k = 2) : XTx (si g 1 k v) len tx := ⟨h.1, by rw [gi_si, if_neg (fun q => hk q.2.symm)]; exact h.2.1, fun j hj => by rw [gi_si, if_neg (by simp)]; exact h.2.2 j hj⟩
theorem XTx.sl {g : GM} {len i k : Nat} {tx : Nat → Nat} {v : Int64} (h : XTx g len tx) : XTx (sl g i k v) len tx := h
section XTOK
variable {g : GM} {len p s : Nat} {tx : Nat → Nat}
theorem x_skip (h : XTx g len tx) (h4 : gi g 1 4 = nI p) (h1 : p ≤ s) (h2 : s ≤ len) (h3 : ∀ j, p ≤ j → j < s → isB (tx j)) (h5 : s < len → ¬ isB (tx s)) : F_X4_advance g = F_X4_advance_52 (si g 1 4 (nI s)) := by
  obtain ⟨hl, hlen, hb⟩ := h
  unfold F_X4_advance
  have := fix_for (B := F_X4_advance_0B) (fun i => si g 1 4 (nI (p + i))) (s - p) (F_X4_advance_52 (si g 1 4 (nI s))) (fun i hi kb => ?_) (fun kb => ?_) (s - p) 0 FU (by omega) (by show s - p < 70000; omega)
  · rw [← this]
    congr 1
    exact (si_same (by rw [h4, Nat.add_zero])).symm
  · obtain ⟨b1, b2⟩ := hb (p + i) (by omega)
    have e1 : gi (si g 1 4 (nI (p + i))) 1 2 = nI len := by rw [gi_si, if_neg (by decide)]; exact hlen
    have e2 : gi (si g 1 4 (nI (p + i))) 1 4 = nI (p + i) := by rw [gi_si, if_pos ⟨rfl, rfl⟩]
    have e3 : gi (si g 1 4 (nI (p + i))) 2 (p + i) = sx (tx (p + i)) := by rw [gi_si, if_neg (by simp)]; exact b2
    unfold F_X4_advance_0B F_X4_advance_39
    rw [e1, e2, if_neg (nI_ge (by omega) (by omega)), ck_true (inB_nI (by omega) (by decide)), ck_true (inB_nI (by omega) (by decide)), nI_clamp (by omega), e3, lt_def, si_si, nI_1, Nat.add_assoc]
    rcases h3 (p + i) (by omega) (by omega) with q | q
    · rw [if_pos ((sx_32 _ b1).mpr q)]
    · rw [if_neg (fun r => by have := (sx_32 _ b1).mp r; omega), if_pos ((sx_10 _ b1).mpr q)]
  · rw [show p + (s - p) = s by omega]
    have e1 : gi (si g 1 4 (nI s)) 1 2 = nI len := by rw [gi_si, if_neg (by decide)]; exact hlen
    have e2 : gi (si g 1 4 (nI s)) 1 4 = nI s := by rw [gi_si, if_pos ⟨rfl, rfl⟩]
    unfold F_X4_advance_0B
    rw [e1, e2]
    by_cases c : s < len
    · obtain ⟨b1, b2⟩ := hb s c
      have e3 : gi (si g 1 4 (nI s)) 2 s = sx (tx s) := by rw [gi_si, if_neg (by simp)]; exact b2
      have hnb := h5 c
      unfold isB at hnb
      rw [if_neg (nI_ge (by omega) (by omega)), ck_true (inB_nI (by omega) (by decide)), ck_true (inB_nI (by omega) (by decide)), nI_clamp (by omega), e3, if_neg (fun r => hnb (Or.inl ((sx_32 _ b1).mp r))), if_neg (fun r => hnb (Or.inr ((sx_10 _ b1).mp r)))]
    · rw [if_pos (nI_le (by omega) (by omega))]
/-- the loop over the reserved words -/
theorem x_kind0 {g : GM} (hr : ∀ i, i < 11 → gl g 3 i = wX i) (hk : ¬ gi g 1 5 = 2 ∨ ∀ i, i < 11 → ¬ gl g 1 8 = wX i) : fixN F_X4_readWord_110B FU (0, g) = some g := by
  refine fix_for0 (fun i => (nI i, g)) 11 _ (fun i hi kb => ?_) (fun kb => ?_) (by decide)
  · unfold F_X4_readWord_110B F_X4_readWord_148
    dsimp only
    rw [if_neg (show ¬ (11 : Int32) ≤ nI i from nI_ge (a := i) (b := 11) hi (by decide)), ck_true (inB_nI hi (by decide)), nI_clamp (by omega), hr i hi, lt_def, nI_1]
    rcases hk with q | q
    · rw [if_neg q]; rfl
    · rw [if_neg (fun r => q i hi ((lg_cmp_eq _ _).mp r).symm)]
      split <;> rfl
  · unfold F_X4_readWord_110B
    dsimp only
    rw [if_pos (by decide)]
theorem x_kind1 {g : GM} (hr : ∀ i, i < 11 → gl g 3 i = wX i) (hk : gi g 1 5 = 2) {i0 : Nat} (h0 : i0 < 11) (hw : gl g 1 8 = wX i0) : fixN F_X4_readWord_110B FU (0, g) = some (si g 1 5 (nI (4 + i0))) := by
  have hne : ¬ nI (4 + i0) = 2 := fun q => by have := (nI_eq (b := 2) (by omega) (by decide)).mp q; omega
  refine fix_for0 (fun i => (nI i, if i ≤ i0 then g else si g 1 5 (nI (4 + i0)))) 11 _ (fun i hi kb => ?_) (fun kb => ?_) (by decide)
  · unfold F_X4_readWord_110B F_X4_readWord_148
    dsimp only
    rw [if_neg (show ¬ (11 : Int32) ≤ nI i from nI_ge (a := i) (b := 11) hi (by decide)), ck_true (inB_nI hi (by decide)), nI_clamp (by omega)]
    by_cases c : i ≤ i0
    · rw [if_pos c, if_pos hk, hr i hi, hw, lt_def, nI_1, show (4 : Int32) + nI i = nI (4 + i) from nI_add 4 i, lt_def, lt_def]
      by_cases e : i = i0
      · subst e
        rw [if_pos ((lg_cmp_eq _ _).mpr rfl), if_neg (show ¬ i + 1 ≤ i by omega)]
      · rw [if_neg (fun r => e (wX_ne i hi i0 h0 ((lg_cmp_eq _ _).mp r))), if_pos (show i + 1 ≤ i0 by omega)]
    · rw [if_neg c, if_neg (show ¬ i + 1 ≤ i0 by omega), if_neg (show ¬ gi (si g 1 5 (nI (4 + i0))) 1 5 = 2 by rw [gi_si, if_pos ⟨rfl, rfl⟩]; exact hne), lt_def, nI_1]
  · unfold F_X4_readWord_110B
    dsimp only
    rw [if_pos (by decide), if_neg (by omega)]
theorem isL_x {v : Nat} (h : isL v) : ¬ sx v < 97 ∧ ¬ 122 < sx v := by
  unfold isL at h
  exact ⟨fun q => by have := (sx_lt97 v (by omega)).mp q; omega, fun q => by have := (sx_gt122 v (by omega)).mp q; omega⟩
theorem nL_x {v : Nat} (hv : v < 256) (h : ¬ isL v) : sx v < 97 ∨ (¬ sx v < 97 ∧ 122 < sx v) := by
  unfold isL at h
  by_cases c : sx v < 97
  · exact Or.inl c
  · refine Or.inr ⟨c, (sx_gt122 v hv).mpr ?_⟩
    have : ¬ (v < 97 ∨ 128 ≤ v) := fun q => c ((sx_lt97 v hv).mpr q)
    omega
theorem isD_x {v : Nat} (h : isD v) : ¬ sx v < 48 ∧ ¬ 57 < sx v := by
  unfold isD at h
  exact ⟨fun q => by have := (sx_lt48 v (by omega)).mp q; omega, fun q => by have := (sx_gt57 v (by omega)).mp q; omega⟩
theorem nD_x {v : Nat} (hv : v < 256) (h : ¬ isD v) : sx v < 48 ∨ (¬ sx v < 48 ∧ 57 < sx v) := by
  unfold isD at h
  by_cases c : sx v < 48
  · exact Or.inl c
  · refine Or.inr ⟨c, (sx_gt57 v hv).mpr ?_⟩
    have : ¬ (v < 48 ∨ 128 ≤ v) := fun q => c ((sx_lt48 v hv).mpr q)
    omega
theorem x_letters {e : Nat} (h : XTx g len tx) (h4 : gi g 1 4 = nI s) (h1 : s ≤ e) (h2 : e ≤ len) (h3 : ∀ j, s ≤ j → j < e → isL (tx j)) (h5 : e < len → ¬ isL (tx e)) :
    F_X4_readWord g = F_X4_readWord_85 (si (sl g 1 8 (lN (w32 tx s (e - s)))) 1 4 (nI e)) := by
  obtain ⟨hl, hlen, hb⟩ := h
  unfold F_X4_readWord
  rw [lt_def]
  have := fix_for (B := F_X4_readWord_5B) (fun i => si (sl g 1 8 (lN (w32 tx s i))) 1 4 (nI (s + i))) (e - s) (F_X4_readWord_85 (si (sl g 1 8 (lN (w32 tx s (e - s)))) 1 4 (nI e))) (fun i hi kb => ?_) (fun kb => ?_) (e - s) 0 FU (by omega) (by show e - s < 70000; omega)
  · rw [← this]
    congr 1
    exact (si_same (by rw [gi_sl, h4, Nat.add_zero])).symm
  · obtain ⟨b1, b2⟩ := hb (s + i) (by omega)
    have hL := h3 (s + i) (by omega) (by omega)
    obtain ⟨q1, q2⟩ := isL_x hL
    have e1 : gi (si (sl g 1 8 (lN (w32 tx s i))) 1 4 (nI (s + i))) 1 2 = nI len := by rw [gi_si, if_neg (by decide)]; exact hlen
    have e2 : gi (si (sl g 1 8 (lN (w32 tx s i))) 1 4 (nI (s + i))) 1 4 = nI (s + i) := by rw [gi_si, if_pos ⟨rfl, rfl⟩]
    have e3 : gi (si (sl g 1 8 (lN (w32 tx s i))) 1 4 (nI (s + i))) 2 (s + i) = sx (tx (s + i)) := by rw [gi_si, if_neg (by simp)]; exact b2
    have e4 : gl (si (sl g 1 8 (lN (w32 tx s i))) 1 4 (nI (s + i))) 1 8 = lN (w32 tx s i) := by rw [gl_si, gl_sl, if_pos ⟨rfl, rfl⟩]
    unfold isL at hL
    have e5 : ((sx (tx (s + i)) - 97) + 1).toInt64 = lN (tx (s + i) - 96) := by
      rw [sx_low _ (by omega), show (97 : Int32) = nI 97 from rfl, nI_sub hL.1, nI_1, nI_l (by omega)]
      congr 1
      omega
    unfold F_X4_readWord_5B
    rw [e1, e2, if_neg (nI_ge (by omega) (by omega)), ck_true (inB_nI (by omega) (by decide)), ck_true (inB_nI (by omega) (by decide)), ck_true (inB_nI (by omega) (by decide)), nI_clamp (by omega), e3, if_neg q1, if_neg q2, lt_def, lt_def, e4, e5, show (32 : Int64) = lN 32 from rfl, lN_mul, lN_add, sl_si, sl_sl, gi_si, if_pos ⟨rfl, rfl⟩, nI_1, si_si, Nat.add_assoc]
    rfl
  · rw [show s + (e - s) = e by omega]
    have e1 : gi (si (sl g 1 8 (lN (w32 tx s (e - s)))) 1 4 (nI e)) 1 2 = nI len := by rw [gi_si, if_neg (by decide)]; exact hlen
    have e2 : gi (si (sl g 1 8 (lN (w32 tx s (e - s)))) 1 4 (nI e)) 1 4 = nI e := by rw [gi_si, if_pos ⟨rfl, rfl⟩]
    unfold F_X4_readWord_5B
    rw [e1, e2]
    by_cases c : e < len
    · obtain ⟨b1, b2⟩ := hb e c
      have e3 : gi (si (sl g 1 8 (lN (w32 tx s (e - s)))) 1 4 (nI e)) 2 e = sx (tx e) := by rw [gi_si, if_neg (by simp)]; exact b2
      rw [if_neg (nI_ge (by omega) (by omega)), ck_true (inB_nI (by omega) (by decide)), ck_true (inB_nI (by omega) (by decide)), nI_clamp (by omega), e3]
      rcases nL_x b1 (h5 c) with q | ⟨q, q'⟩
      · rw [if_pos q]
      · rw [if_neg q, if_pos q']
    · rw [if_pos (nI_le (by omega) (by omega))]
theorem x_digits {e : Nat} (h : XTx g len tx) (h4 : gi g 1 4 = nI s) (h1 : s ≤ e) (h2 : e ≤ len) (h3 : ∀ j, s ≤ j → j < e → isD (tx j)) (h5 : e < len → ¬ isD (tx e)) :
    F_X4_readNumber g = F_X4_readNumber_81 (si (si g 1 7 (nI (dv tx s (e - s)))) 1 4 (nI e)) := by
  obtain ⟨hl, hlen, hb⟩ := h
  unfold F_X4_readNumber
  rw [lt_def]
  have := fix_for (B := F_X4_readNumber_5B) (fun i => si (si g 1 7 (nI (dv tx s i))) 1 4 (nI (s + i))) (e - s) (F_X4_readNumber_81 (si (si g 1 7 (nI (dv tx s (e - s)))) 1 4 (nI e))) (fun i hi kb => ?_) (fun kb => ?_) (e - s) 0 FU (by omega) (by show e - s < 70000; omega)
  · rw [← this]
    congr 1
    exact (si_same (by rw [gi_si, if_neg (by decide), h4, Nat.add_zero])).symm
  · obtain ⟨b1, b2⟩ := hb (s + i) (by omega)
    have hL := h3 (s + i) (by omega) (by omega)
    obtain ⟨q1, q2⟩ := isD_x hL
    have e1 : gi (si (si g 1 7 (nI (dv tx s i))) 1 4 (nI (s + i))) 1 2 = nI len := by rw [gi_si, if_neg (by decide), gi_si, if_neg (by decide)]; exact hlen
    have e2 : gi (si (si g 1 7 (nI (dv tx s i))) 1 4 (nI (s + i))) 1 4 = nI (s + i) := by rw [gi_si, if_pos ⟨rfl, rfl⟩]
    have e3 : gi (si (si g 1 7 (nI (dv tx s i))) 1 4 (nI (s + i))) 2 (s + i) = sx (tx (s + i)) := by rw [gi_si, if_neg (by simp), gi_si, if_neg (by simp)]; exact b2
    have e4 : gi (si (si g 1 7 (nI (dv tx s i))) 1 4 (nI (s + i))) 1 7 = nI (dv tx s i) := by rw [gi_si, if_neg (by decide), gi_si, if_pos ⟨rfl, rfl⟩]
    unfold isD at hL
    have e5 : sx (tx (s + i)) - 48 = nI (tx (s + i) - 48) := by
      rw [sx_low _ (by omega), show (48 : Int32) = nI 48 from rfl, nI_sub hL.1]
    have e6 : ∀ (v w : Int32) (g : GM), si (si g 1 4 v) 1 7 w = si (si g 1 7 w) 1 4 v := by
      intro v w g
      obtain ⟨a, b⟩ := g
      show ((fun x y => if x = 1 ∧ y = 7 then w else if x = 1 ∧ y = 4 then v else a x y), b) = ((fun x y => if x = 1 ∧ y = 4 then v else if x = 1 ∧ y = 7 then w else a x y), b)
      congr 1
      funext x y
      by_cases c1 : x = 1 ∧ y = 7
      · rw [if_pos c1, if_neg (by omega), if_pos c1]
      · rw [if_neg c1]
        by_cases c2 : x = 1 ∧ y = 4
        · rw [if_pos c2, if_pos c2]
        · rw [if_neg c2, if_neg c2, if_neg c1]
    unfold F_X4_readNumber_5B
    rw [e1, e2, if_neg (nI_ge (by omega) (by omega)), ck_true (inB_nI (by omega) (by decide)), ck_true (inB_nI (by omega) (by decide)), ck_true (inB_nI (by omega) (by decide)), nI_clamp (by omega), e3, if_neg q1, if_neg q2, lt_def, lt_def, e4, e5, show (10 : Int32) = nI 10 from rfl, nI_mul, nI_add, e6, si_si, gi_si, if_pos ⟨rfl, rfl⟩, nI_1, si_si, Nat.add_assoc]
    rfl
  · rw [show s + (e - s) = e by omega]
    have e1 : gi (si (si g 1 7 (nI (dv tx s (e - s)))) 1 4 (nI e)) 1 2 = nI len := by rw [gi_si, if_neg (by decide), gi_si, if_neg (by decide)]; exact hlen
    have e2 : gi (si (si g 1 7 (nI (dv tx s (e - s)))) 1 4 (nI e)) 1 4 = nI e := by rw [gi_si, if_pos ⟨rfl, rfl⟩]
    unfold F_X4_readNumber_5B
    rw [e1, e2]
    by_cases c : e < len
    · obtain ⟨b1, b2⟩ := hb e c
      have e3 : gi (si (si g 1 7 (nI (dv tx s (e - s)))) 1 4 (nI e)) 2 e = sx (tx e) := by rw [gi_si, if_neg (by simp), gi_si, if_neg (by simp)]; exact b2
      rw [if_neg (nI_ge (by omega) (by omega)), ck_true (inB_nI (by omega) (by decide)), ck_true (inB_nI (by omega) (by decide)), nI_clamp (by omega), e3]
      rcases nD_x b1 (h5 c) with q | ⟨q, q'⟩
      · rw [if_pos q]
      · rw [if_neg q, if_pos q']
    · rw [if_pos (nI_le (by omega) (by omega))]
end XTOK
